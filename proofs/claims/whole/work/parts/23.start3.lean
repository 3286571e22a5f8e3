/-! ===== the start for the pure machine ===== -/
noncomputable section
theorem h0s_6 {L a : Nat} (h : (h0s L a).1 = 6) : 4 ≤ a ∧ a < 30 ∧ a % 2 = 0 := by
  unfold h0s at h
  repeat' split at h
  all_goals first | (exact absurd h (by show ¬ (_ : Nat) = 6; decide)) | omega | (refine ⟨by omega, by omega, by omega⟩)
theorem h0s_7 {L a : Nat} (h : (h0s L a).1 = 7) : 5 ≤ a ∧ a < 30 ∧ a % 2 = 1 := by
  unfold h0s at h
  repeat' split at h
  all_goals first | (exact absurd h (by show ¬ (_ : Nat) = 7; decide)) | omega | (refine ⟨by omega, by omega, by omega⟩)
theorem h0s_5 {L a : Nat} (h : (h0s L a).1 = 5) : a ≤ 3 := by
  unfold h0s at h
  repeat' split at h
  all_goals first | (exact absurd h (by show ¬ (_ : Nat) = 5; decide)) | omega
theorem h0s_ev {L a : Nat} (h1 : 4 ≤ a) (h2 : a < 30) (h3 : a % 2 = 0) : h0s L a = (6, st_len.getD ((a - 4) / 2) 0) := by
  unfold h0s; rw [if_neg (by omega), if_neg (by omega), if_pos h2, if_pos h3]
theorem h0s_od {L a : Nat} (h1 : 5 ≤ a) (h2 : a < 30) (h3 : a % 2 = 1) : h0s L a = (7, st_len.getD ((a - 5) / 2) 0) := by
  unfold h0s; rw [if_neg (by omega), if_neg (by omega), if_pos h2, if_neg (by omega)]
def ckLdc (own : String) (r : Nat × PV) : Bool := match r.2 with
  | .inl x => decide ((p_I x).toInt = x)
  | .inr (.inr (some (k, n, a))) => Nat.beq k 6 && (Nat.ble 4 a && (Nat.blt a 30 && (Nat.beq (a % 2) 0 && (Nat.beq n (st_len.getD ((a - 4) / 2) 0) && (decide ((st_own.getD ((a - 4) / 2) ("", 0, "")).1 = own) && Nat.beq (st_own.getD ((a - 4) / 2) ("", 0, "")).2.1 r.1)))))
  | _ => false
theorem ckLdc_all : (z_own pm_css).all (fun o => o.2.all (ckLdc o.1)) = true := by decide +kernel
def gList : List (String × Nat × PV) := [("MapPieces$Ring", 59, vR (some (5, 1, 1))), ("MapPieces$Ring", 62, vR (some (5, 4, 2))), ("MapPieces$Ring", 65, vR (some (5, 20, 3))), ("java/lang/String", 38, vI 1), ("java/lang/String", 1053, vR (some (8, 0, 30)))]
def pvE (a b : PV) : Bool := match a, b with
  | .inl x, .inl y => decide (x = y)
  | .inr (.inl x), .inr (.inl y) => decide (x = y)
  | .inr (.inr x), .inr (.inr y) => decide (x = y)
  | _, _ => false
theorem pvE_ok {a b : PV} (h : pvE a b = true) : a = b := by
  rcases a with x | x | x <;> rcases b with y | y | y
  · have h : decide (x = y) = true := h
    rw [of_decide_eq_true h]
  · cases h
  · cases h
  · cases h
  · have h : decide (x = y) = true := h
    rw [of_decide_eq_true h]
  · cases h
  · cases h
  · cases h
  · have h : decide (x = y) = true := h
    rw [of_decide_eq_true h]
theorem ckG_all : (z_own pm_gss).all (fun o => o.2.all (fun r => gList.any (fun g => decide (g.1 = o.1) && (decide (g.2.1 = r.1) && pvE g.2.2 r.2)))) = true := by decide +kernel
theorem in_g {w : Cond} (h : w ∈ ws_g) : w ∈ wsG := by
  apply in_a
  unfold ws_a
  exact List.mem_append.mpr (Or.inr (List.mem_append.mpr (Or.inr h)))
section
variable {b L q : Nat} {s : State} {xs : Nat → Int32} {adS adK adV : Nat → Nat}
theorem st_STR (hST : ST b adS adK adV q s) : STR (X0 b adS adK adV q L xs) s.heap.size s := by
  intro a ha h6 ad had
  have h6 : (h0s L a).1 = 6 := h6
  obtain ⟨h1, h2, h3⟩ := h0s_6 h6
  have hi : (a - 4) / 2 < 13 := by omega
  obtain ⟨-, hc, hv, -⟩ := hST.1.1 _ hi
  have e1 : (X0 b adS adK adV q L xs).1 a = adK ((a - 4) / 2) := by
    show ad0 b adS adK adV q a = _
    unfold ad0; rw [if_neg (by omega), if_neg (by omega), if_pos h2, if_pos h3]
  have e2 : (X0 b adS adK adV q L xs).2.2.1 a 0 = some (7, st_len.getD ((a - 4) / 2) 0, a + 1) := by
    show h0r a 0 = _
    unfold h0r; rw [if_pos ⟨h1, h2, h3, rfl⟩]
  have e3 : ad (a + 1) = adV ((a - 4) / 2) := by
    rw [had (a + 1) (by omega)]
    show ad0 b adS adK adV q (a + 1) = _
    unfold ad0; rw [if_neg (by omega), if_neg (by omega), if_pos (by omega), if_neg (by omega), show a + 1 - 5 = a - 4 by omega]
  have e4 : (X0 b adS adK adV q L xs).2.1 a 1 = 0 := by
    show h0i xs a 1 = 0
    unfold h0i; rw [if_neg (by omega), if_neg (by omega), if_neg (by omega)]
  rw [e1, e2, e4, tv_ref (by decide), e3]
  exact ⟨hv, hc⟩
theorem st_ROT (hST : ST b adS adK adV q s) (hX : va_X b L xs s s.heap) (hbl : b < s.heap.size) (hL : L ≤ 3072) : ROT (X0 b adS adK adV q L xs) s.heap.size s := by
  intro a ha
  refine ⟨fun h5 => ?_, fun h7 => ?_⟩
  · have h5 : (h0s L a).1 = 5 := h5
    have h3 := h0s_5 h5
    rcases Nat.eq_zero_or_pos a with h0 | h0
    · subst h0
      obtain ⟨scr, g1, g2, g3, g4, g5⟩ := hX
      refine ⟨scr, g1, g2, g3, ?_, ?_, fun j hj => ?_, fun z => Nat.lt_irrefl _ (Nat.lt_of_lt_of_le hbl z)⟩
      · rw [g4]; exact Nat.le_refl L
      · rw [g4]; rfl
      · have hj : j < L := hj
        show scr.slots[j]? = some (.int (p_I (xs j).toInt))
        rw [pI_toInt]
        exact g5 j hj
    · have hk := (hST.2.2.1 a h0 h3).1
      have e1 : (X0 b adS adK adV q L xs).1 a = adS a := by
        show ad0 b adS adK adV q a = _
        unfold ad0; rw [if_neg (by omega), if_pos h3]
      have e2 : (X0 b adS adK adV q L xs).2.2.2 a = (5, sw_len a) := by
        show h0s L a = _
        unfold h0s; rw [if_neg (by omega), if_pos h3]
      have e3 : (fun j => Value.int (p_I ((X0 b adS adK adV q L xs).2.1 a j))) = fun j => .int ((sw_tab a).getD j 0) := by
        funext j
        show Value.int (p_I (h0i xs a j)) = _
        unfold h0i; rw [if_neg (by omega), if_pos h3, pI_toInt]
      rw [e1, e2, e3]
      exact hk
  · have h7 : (h0s L a).1 = 7 := h7
    obtain ⟨h1, h2, h3⟩ := h0s_7 h7
    have hi : (a - 5) / 2 < 13 := by omega
    obtain ⟨-, -, -, hT⟩ := hST.1.1 _ hi
    have e1 : (X0 b adS adK adV q L xs).1 a = adV ((a - 5) / 2) := by
      show ad0 b adS adK adV q a = _
      unfold ad0; rw [if_neg (by omega), if_neg (by omega), if_pos h2, if_neg (by omega)]
    have e2 : (X0 b adS adK adV q L xs).2.2.2 a = (7, st_len.getD ((a - 5) / 2) 0) := h0s_od h1 h2 h3
    have e3 : (fun j => Value.int (p_I ((X0 b adS adK adV q L xs).2.1 a j))) = fun j => .int ((st_byt.getD ((a - 5) / 2) []).getD j 0) := by
      funext j
      show Value.int (p_I (h0i xs a j)) = _
      unfold h0i; rw [if_neg (by omega), if_neg (by omega), if_pos ⟨h2, h3⟩, pI_toInt]
    rw [e1, e2, e3]
    exact hT
theorem st_LDC (hST : ST b adS adK adV q s) : ∀ oi own ix v, pl_at pm_own oi = some own → pm_cst oi ix = some v → LDC (X0 b adS adK adV q L xs) s own ix v := by
  intro oi own ix v ho h
  obtain ⟨l, g1, g2⟩ := bind_mem h
  have hc := List.all_eq_true.mp (List.all_eq_true.mp ckLdc_all (own, l) (pl_zip _ _ _ _ _ ho g1)) _ g2
  rcases v with x | x | r
  · obtain ⟨l2, e2⟩ := at_len pm_own pm_cws rfl oi own ho
    obtain ⟨l3, e3⟩ := at_len pm_own pm_c2s rfl oi own ho
    have hc : decide ((p_I x).toInt = x) = true := hc
    exact Or.inl ⟨x, rfl, (of_decide_eq_true hc : (p_I x).toInt = x), in_cst ho g1 e2 e3 ⟨_, Or.inl g2, List.mem_cons_self⟩⟩
  · cases hc
  · rcases r with _ | ⟨k, n, a⟩
    · cases hc
    · have hc : (Nat.beq k 6 && (Nat.ble 4 a && (Nat.blt a 30 && (Nat.beq (a % 2) 0 && (Nat.beq n (st_len.getD ((a - 4) / 2) 0) && (decide ((st_own.getD ((a - 4) / 2) ("", 0, "")).1 = own) && Nat.beq (st_own.getD ((a - 4) / 2) ("", 0, "")).2.1 ix)))))) = true := hc
      obtain ⟨c0, hc⟩ := Bool.and_eq_true_iff.mp hc
      obtain ⟨c1, hc⟩ := Bool.and_eq_true_iff.mp hc
      obtain ⟨c2, hc⟩ := Bool.and_eq_true_iff.mp hc
      obtain ⟨c3, hc⟩ := Bool.and_eq_true_iff.mp hc
      obtain ⟨c4, hc⟩ := Bool.and_eq_true_iff.mp hc
      obtain ⟨c5, c6⟩ := Bool.and_eq_true_iff.mp hc
      have c0 := Nat.eq_of_beq_eq_true c0
      have c1 := Nat.le_of_ble_eq_true c1
      have c2 : a < 30 := Nat.le_of_ble_eq_true c2
      have c3 := Nat.eq_of_beq_eq_true c3
      have c4 := Nat.eq_of_beq_eq_true c4
      have c5 := of_decide_eq_true c5
      have c6 := Nat.eq_of_beq_eq_true c6
      subst c0
      have hr := hST.2.1 ((a - 4) / 2) (by omega)
      rw [c5, c6] at hr
      refine Or.inr ⟨n, a, _, rfl, by omega, ?_, (?_ : vk_R own ix (st_own.getD ((a - 4) / 2) ("", 0, "")).2.2 _ s)⟩
      · show h0s L a = _
        rw [h0s_ev c1 c2 c3, c4]
      · show vk_R own ix _ (ad0 b adS adK adV q a) s
        have e1 : ad0 b adS adK adV q a = adK ((a - 4) / 2) := by unfold ad0; rw [if_neg (by omega), if_neg (by omega), if_pos c2, if_pos c3]
        rw [e1]
        exact hr
theorem st_GST (hST : ST b adS adK adV q s) : ∀ oi own ix v, pl_at pm_own oi = some own → pm_gst oi ix = some v → GST (X0 b adS adK adV q L xs) s.heap.size s own ix v := by
  intro oi own ix v ho h
  obtain ⟨l, g1, g2⟩ := bind_mem h
  have hc := List.all_eq_true.mp (List.all_eq_true.mp ckG_all (own, l) (pl_zip _ _ _ _ _ ho g1)) _ g2
  have hc : (own, ix, v) ∈ gList := by
    obtain ⟨g, hg, h⟩ := List.any_eq_true.mp hc
    obtain ⟨a1, h⟩ := Bool.and_eq_true_iff.mp h
    obtain ⟨a2, a3⟩ := Bool.and_eq_true_iff.mp h
    obtain ⟨g1', g2', g3'⟩ := g
    have a1 : g1' = own := of_decide_eq_true a1
    have a2 : g2' = ix := of_decide_eq_true a2
    have a3 : g3' = v := pvE_ok a3
    rw [a1, a2, a3] at hg
    exact hg
  have sw : ∀ k, 1 ≤ k → k ≤ 3 → ∀ ad : Nat → Nat, (∀ i, i < 31 → ad i = (X0 b adS adK adV q L xs).1 i) → va_Z "MapPieces$Ring" (sw_nm k) "[I" (tv ad (vR (some (5, sw_len k, k)))) (AB s.heap.size) s s.heap := by
    intro k h1 h3 ad had
    rw [tv_ref (by decide), had k (by omega)]
    have e1 : (X0 b adS adK adV q L xs).1 k = adS k := by
      show ad0 b adS adK adV q k = _
      unfold ad0; rw [if_neg (by omega), if_pos h3]
    rw [e1]
    exact (hST.2.2.1 k h1 h3).2
  unfold gList at hc
  simp only [List.mem_cons, List.not_mem_nil, or_false] at hc
  rcases hc with z | z | z | z | z
  · cases z
    exact ⟨_, _, _, sw 1 (by decide) (by decide), in_g (by unfold ws_g; exact List.mem_cons_self), Or.inr ⟨5, 1, 1, rfl, by decide, rfl, by decide, by decide⟩⟩
  · cases z
    exact ⟨_, _, _, sw 2 (by decide) (by decide), in_g (by unfold ws_g; exact List.mem_cons_of_mem _ List.mem_cons_self), Or.inr ⟨5, 4, 2, rfl, by decide, rfl, by decide, by decide⟩⟩
  · cases z
    exact ⟨_, _, _, sw 3 (by decide) (by decide), in_g (by unfold ws_g; exact List.mem_cons_of_mem _ (List.mem_cons_of_mem _ List.mem_cons_self)), Or.inr ⟨5, 20, 3, rfl, by decide, rfl, by decide, by decide⟩⟩
  · cases z
    exact ⟨_, _, _, fun _ _ => hST.2.2.2.1, in_g (by unfold ws_g; exact List.mem_cons_of_mem _ (List.mem_cons_of_mem _ (List.mem_cons_of_mem _ List.mem_cons_self))), Or.inl ⟨1, rfl, (by decide : (p_I 1).toInt = 1)⟩⟩
  · cases z
    refine ⟨_, _, _, fun ad had => ?_, in_g (by unfold ws_g; exact List.mem_cons_of_mem _ (List.mem_cons_of_mem _ (List.mem_cons_of_mem _ (List.mem_cons_of_mem _ List.mem_cons_self)))), Or.inr ⟨8, 0, 30, rfl, by decide, rfl, by decide, by decide⟩⟩
    have e1 : tv ad (vR (some (8, 0, 30))) = fmV q := by
      show (if 8 = 8 then (match ad 30 with
        | 0 => Value.null
        | q + 1 => .ref q) else .ref (ad 30)) = _
      rw [if_pos rfl, had 30 (by decide)]
      rfl
    rw [e1]
    exact hST.2.2.2.2
theorem fT1 : inL (.isRef (.static Bundle.tN "UNASSIGNED_STACK" Bundle.steD)) = true := by decide +kernel
theorem fT2 : inL (.isRef (.static Bundle.tN "SUPPRESSED_SENTINEL" Bundle.listD)) = true := by decide +kernel
theorem st_SX {D : va_G} {cA : Nat → ClassId} (hts : ∀ w ∈ lw_tbl, w.before #[Value.ref b] s = true) (hgv : (Jvm.Cond.and given_1 narrow_1).before #[Value.ref b] s = true) (hX : va_X b L xs s s.heap) (hbl : b < s.heap.size) (hL : L ≤ 3072) (hST : ST b adS adK adV q s)
    (hD : ∀ (c : Nat) (q : vw_C), vwCl[c]? = some q → u_Kn s q.1 q.2.1 q.2.2 (D.1 c) (D.2 c)) (hcA : ∀ (k : Nat) (q : ClassId × FieldType), (tys5 cA)[k]? = some q → ArrOfT s q.1 q.2 ∧ va_RA s q.1 q.2) : SX (X0 b adS adK adV q L xs) D cA s.heap.size s s := by
  have hA : ∀ a : Nat, a < s.heap.size → ¬ AB s.heap.size a := fun a h1 h2 => Nat.lt_irrefl _ (Nat.lt_of_lt_of_le h1 h2)
  refine ⟨⟨Vm.Alike.refl _, Nat.le_refl _, fun _ _ => rfl⟩, ⟨hD, hcA⟩, st_STR hST, st_ROT hST hX hbl hL, va_AO.of (tw hts (0, 76) rfl), va_AO.of (tw hts (0, 200) rfl), ?_, ?_, st_LDC hST, st_GST hST, ?_⟩
  · exact vx_Zqof (tw hts (2, 38) rfl) (tw hts (0, 12) rfl) (inL_ok hgv fT1) hA
  · exact vx_Zqof (tw hts (2, 40) rfl) (tw hts (0, 12) rfl) (inL_ok hgv fT2) hA
  · refine ⟨fun a ha h6 => ?_, st_nest hts, st_cast hts, st_nc hgv⟩
    have h6 : (h0s L a).1 = 6 := h6
    obtain ⟨h1, h2, h3⟩ := h0s_6 h6
    have hi : (a - 4) / 2 < 13 := by omega
    have e1 : (X0 b adS adK adV q L xs).1 a = adK ((a - 4) / 2) := by
      show ad0 b adS adK adV q a = _
      unfold ad0; rw [if_neg (by omega), if_neg (by omega), if_pos h2, if_pos h3]
    rw [e1]
    exact (hST.1.1 _ hi).1
end
/-- the law's locals at its entry -/
def ls0 (L : Nat) : PLs := [some (vR (some (5, L, 0))), none, none, none, none, none, none]
theorem no_traces {l : Launch} (hflags : l.flags = flags0) : l.stackTraces = false := by
  unfold Launch.stackTraces
  rw [hflags]
  decide +kernel
/-- from a run of the pure machine to the law's end -/
theorem start_of_run {p : Program} {e : Env} {s : State} {m : MethodId} {below : List Frame} {meth : Method} {c : Code} (l : Launch) (hflags : l.flags = flags0) {b L : Nat} {xs : Nat → Int32} (hL : L ≤ 3072) (C0 : lw_At p s m meth c b L xs) {n d : Nat} {hF : PM} (hd : d ≤ 1500)
    (hrun : pm_run n d mL_law (0, ls0 L, [], h0 L xs) = some (.inl (some (vI 1)), hF)) (hce : m_ce hF ≤ 603072) (hsl : m_sl hF ≤ 7125098) :
    W p l e room_1 s m #[Value.ref b] below meth c s.heap [] 0 0 (lw_Z below #[Value.ref b] s) (entryFrame m ([Value.ref b] : List Value).toArray 7) := by
  obtain ⟨hx, hb, hr, hml, hown, hts, hX, hbl, hlk, hgv, hnm, htab⟩ := C0
  obtain ⟨D, hD⟩ := st_cls hts
  obtain ⟨cA, hcA⟩ := st_arr hts
  obtain ⟨adS, adK, adV, q, hST⟩ := st_ok hts hgv
  have hSX : SX (X0 b adS adK adV q L xs) D cA s.heap.size s s := st_SX hts hgv hX hbl hL hST hD hcA
  have hFX : FX p s m #[Value.ref b] meth c mL_law (x, code, 7, ret, true, 1, none) "MapPiecesLaw" := ⟨rfl, rfl, hx, hb, hml, hr, hown, fun w hw => hts w (wsG_in hw), hlk, hnm, htab⟩
  have hro : roS (X0 b adS adK adV q L xs) (h0 L xs) (ad0 b adS adK adV q) := fun i hi => ⟨rfl, rfl, rfl, rfl, Nat.zero_le _, fun j hj => absurd hj (Nat.not_lt_zero _)⟩
  have hent : p_entry [vR (some (5, L, 0))] 7 = some (ls0 L) := rfl
  have hT : okT (h0 L xs) [vR (some (5, L, 0))] := by
    intro v hv
    rcases List.mem_cons.mp hv with z | z
    · subst z
      intro kd n a hq
      cases hq
      refine ⟨by show 0 < 31; decide, rfl, rfl, ?_⟩
      constructor
      · intro z; omega
      · intro z; exact absurd ⟨by decide, by decide⟩ z
    · cases z
  obtain ⟨hLR, hoL⟩ := entry_LR (ad := ad0 b adS adK adV q) hent hT
  have hext : m_ext (h0 L xs) hF := run_ext _ _ _ _ _ _ hrun
  have hRc : m_ce hF - 0 ≤ room_1.cells := by show m_ce hF - 0 ≤ 603072; omega
  have hRs : m_sl hF - 0 ≤ room_1.slots := by show m_sl hF - 0 ≤ 7125098; omega
  have hRf : d + 12 ≤ room_1.frames := by show d + 12 ≤ 2048; omega
  have hRl : 60 * d + 300 ≤ room_1.locals := by show 60 * d + 300 ≤ 94400; omega
  have hEN : EN l p e room_1 s m #[Value.ref b] below meth c (lw_Z below #[Value.ref b] s) (X0 b adS adK adV q L xs) D cA s.heap.size 0 0 mL_law (x, code, 7, ret, true, 1, none) (.inl (some (vI 1))) hF := by
    intro ad lsR H locs pc i hP hov hdc hrt h1 h2
    obtain ⟨rfl, -⟩ := hrt
    refine W.widen (k := 603072) (n := 7125098) (by omega) (by omega) (va_forget hP.2.2.1.2.2 ?_)
    exact lw_ret hx hb hr hlk hdc
  have g := run_sound tb_ok tm_ok tx_ok (no_traces hflags) n d mL_law (0, ls0 L, [], h0 L xs) (.inl (some (vI 1))) hF hrun p e room_1 s s m #[Value.ref b] below meth c (lw_Z below #[Value.ref b] s) (X0 b adS adK adV q L xs) D cA s.heap.size 0 0 (x, code, 7, ret, true, 1, none) "MapPiecesLaw" hFX hSX hRc hRs hRf hRl hEN
    (ad0 b adS adK adV q) _ s.heap [] ⟨fun k q9 hq => (nomatch hq), ⟨fun i j p9 q9 hp => (nomatch hp), fun k q9 hq => (nomatch hq)⟩, va_S.rf, h0_ok L xs, hro⟩ hLR (fun w hw => nomatch hw) hoL (Nat.zero_le _) (Nat.zero_le _) hext.2.2.1 hext.2.2.2
  rw [lg_entry_eq]
  exact g
end
