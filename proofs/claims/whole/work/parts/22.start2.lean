/-! ===== the facts of the law's own start ===== -/
noncomputable section
theorem tw {args : Array Value} {s : State} (hts : ∀ w ∈ lw_tbl, w.before args s = true) {w : Cond} (q : Nat × Nat) (h : wpick q = some w) : w.before args s = true := hts w (wpick_in h)
theorem inst_ok : ∀ (c : Nat) (q : vw_C), vwCl[c]? = some q → ∃ (n : Nat) (p : Nat × Nat), wpick p = some (.instantiable q.1 n)
  | 0, q, h => by cases h; exact ⟨4, (4, 210), rfl⟩
  | 1, q, h => by cases h; exact ⟨7, (0, 70), rfl⟩
  | 2, q, h => by cases h; exact ⟨4, (0, 202), rfl⟩
  | 3, q, h => by cases h; exact ⟨1, (0, 228), rfl⟩
  | 4, q, h => by cases h; exact ⟨15, (0, 97), rfl⟩
  | 5, q, h => by cases h; exact ⟨12, (1, 59), rfl⟩
  | 6, q, h => by cases h; exact ⟨6, (3, 113), rfl⟩
  | 7, q, h => by cases h; exact ⟨2, (0, 78), rfl⟩
  | 8, q, h => by cases h; exact ⟨4, (1, 34), rfl⟩
  | 9, q, h => by cases h; exact ⟨9, (0, 222), rfl⟩
  | 10, q, h => by cases h; exact ⟨6, (0, 37), rfl⟩
  | 11, q, h => by cases h; exact ⟨16, (0, 29), rfl⟩
  | 12, q, h => by cases h; exact ⟨65, (5, 232), rfl⟩
  | c + 13, q, h => by
    have : c + 13 < 13 := (List.getElem?_eq_some_iff.mp h).1
    omega
theorem st_cls {args : Array Value} {s : State} (hts : ∀ w ∈ lw_tbl, w.before args s = true) : ∃ D : va_G, ∀ (c : Nat) (q : vw_C), vwCl[c]? = some q → u_Kn s q.1 q.2.1 q.2.2 (D.1 c) (D.2 c) := by
  have key : ∀ c : Nat, ∃ g : ClassId × (Nat → Nat), ∀ q : vw_C, vwCl[c]? = some q → u_Kn s q.1 q.2.1 q.2.2 g.1 g.2 := by
    intro c
    cases h : vwCl[c]? with
    | none => exact ⟨(0, fun _ => 0), fun q hq => nomatch hq⟩
    | some q =>
      obtain ⟨C, T, N⟩ := q
      obtain ⟨n, p, hp⟩ := inst_ok c _ h
      obtain ⟨cC, iS, hK⟩ := u_known (ws := wsG) (fun w hw => hts w (wsG_in hw)) (cls_ok h).2.1 (tw hts p hp)
      exact ⟨(cC, iS), fun q hq => by cases hq; exact hK⟩
  obtain ⟨g, hg⟩ := Classical.axiomOfChoice key
  exact ⟨(fun c => (g c).1, fun c => (g c).2), hg⟩
theorem st_arr {args : Array Value} {s : State} (hts : ∀ w ∈ lw_tbl, w.before args s = true) : ∃ cA : Nat → ClassId, ∀ (k : Nat) (q : ClassId × FieldType), (tys5 cA)[k]? = some q → ArrOfT s q.1 q.2 ∧ va_RA s q.1 q.2 := by
  obtain ⟨c0, k0, p0, a0, b0, d0⟩ := Cond.arrayClass_spec (tw hts (w := .arrayClass .int) (0, 96) rfl)
  obtain ⟨c1, k1, p1, a1, b1, d1⟩ := Cond.arrayClass_spec (tw hts (w := .arrayClass .byte) (0, 68) rfl)
  obtain ⟨c2, k2, p2, a2, b2, d2⟩ := Cond.arrayClass_spec (tw hts (w := .arrayClass .long) (9, 33) rfl)
  obtain ⟨p3, c3, k3, e3, -, b3, d3, a3⟩ := Cond.arrayOver_spec (tw hts (w := .arrayOver (.object "MapPieces$Piece")) (0, 76) rfl)
  obtain ⟨p4, c4, k4, e4, -, b4, d4, a4⟩ := Cond.arrayOver_spec (tw hts (w := .arrayOver (.object "MapPieces$Ring")) (0, 200) rfl)
  refine ⟨fun k => if k = 0 then c0 else if k = 1 then c1 else if k = 2 then c2 else if k = 3 then c3 else c4, ?_⟩
  intro k q hq
  match k, hq with
  | 0, hq => cases hq; exact ⟨fun n z => ⟨fun k h => (by cases h), k0, b0, p0, d0⟩, a0⟩
  | 1, hq => cases hq; exact ⟨fun n z => ⟨fun k h => (by cases h), k1, b1, p1, d1⟩, a1⟩
  | 2, hq => cases hq; exact ⟨fun n z => ⟨fun k h => (by cases h), k2, b2, p2, d2⟩, a2⟩
  | 3, hq => cases hq; exact ⟨fun n z => ⟨fun k h => (by cases h), k3, b3, p3, d3⟩, k3, p3, b3, d3, e3, a3⟩
  | 4, hq => cases hq; exact ⟨fun n z => ⟨fun k h => (by cases h), k4, b4, p4, d4⟩, k4, p4, b4, d4, e4, a4⟩
  | k + 5, hq => cases hq
theorem pI_toInt (x : Int32) : p_I x.toInt = x := by unfold p_I; exact Int32.ofInt_toInt x
theorem cn_toInt (x : Int32) : cnI x.toInt := by unfold cnI; rw [pI_toInt]
theorem h0i_cn (xs : Nat → Int32) (a j : Nat) : cnI (h0i xs a j) := by
  unfold h0i
  repeat' split
  · exact cn_toInt _
  · exact cn_toInt _
  · exact cn_toInt _
  · exact cn_0
theorem h0_ok (L : Nat) (xs : Nat → Int32) : okH (h0 L xs) := by
  refine ⟨Nat.le_refl _, fun i h1 h2 => ?_, fun i j hi => ?_⟩
  · have h2 : i < 31 := h2
    omega
  · have hi : i < 31 := hi
    have hkd : m_kd (h0 L xs) i = (h0s L i).1 := rfl
    have h58 : 5 ≤ (h0s L i).1 ∧ (h0s L i).1 ≤ 8 := by
      unfold h0s
      repeat' split
      all_goals first | exact ⟨by decide, by decide⟩ | omega
    unfold okC
    rw [hkd]
    by_cases h6 : (h0s L i).1 = 6
    · by_cases hj : j = 0
      · have e : ctg (h0s L i).1 j = 3 := by unfold ctg; rw [if_neg (by omega), if_neg (by omega), if_pos h6, if_pos hj]
        rw [e, if_neg (by decide), if_pos rfl]
        intro kd n a hr
        have hr : h0r i j = some (kd, n, a) := hr
        unfold h0r at hr
        split at hr
        · rename_i hc
          cases hr
          obtain ⟨c1, c2, c3, c4⟩ := hc
          have e1 : h0s L (i + 1) = (7, st_len.getD ((i - 4) / 2) 0) := by
            unfold h0s
            rw [if_neg (by omega), if_neg (by omega), if_pos (by omega), if_neg (by omega), show i + 1 - 5 = i - 4 by omega]
          refine ⟨by show i + 1 < 31; omega, ?_, ?_, ?_⟩
          · show (h0s L (i + 1)).1 = 7; rw [e1]
          · show (h0s L (i + 1)).2 = _; rw [e1]
          · constructor
            · intro z; omega
            · intro z; exact absurd ⟨by decide, by decide⟩ z
        · cases hr
      · have e : ctg (h0s L i).1 j = 0 := by unfold ctg; rw [if_neg (by omega), if_neg (by omega), if_pos h6, if_neg hj]
        rw [e, if_neg (by decide), if_neg (by decide)]
        exact h0i_cn xs i j
    · have e : ctg (h0s L i).1 j = 0 := by unfold ctg; rw [if_neg (by omega), if_neg (by omega), if_neg h6, if_neg (by omega)]
      rw [e, if_neg (by decide), if_neg (by decide)]
      exact h0i_cn xs i j
theorem sw_lt (k : Nat) : sw_len k < 2 ^ 31 := by
  unfold sw_len
  split
  · decide
  · split <;> decide
def fmV (q : Nat) : Value := match q with
  | 0 => .null
  | r + 1 => .ref r
/-- what the start gives of strings, switches and the script -/
def ST (b : Nat) (adS adK adV : Nat → Nat) (q : Nat) (s : State) : Prop :=
  vk_S 13 st_len st_byt adK adV (AB s.heap.size) s s.heap ∧ (∀ i, i < 13 → vk_R (st_own.getD i ("", 0, "")).1 (st_own.getD i ("", 0, "")).2.1 (st_own.getD i ("", 0, "")).2.2 (adK i) s) ∧
  (∀ k, 1 ≤ k → k ≤ 3 → va_T .int (adS k) (sw_len k) (fun j => .int ((sw_tab k).getD j 0)) (AB s.heap.size) s s.heap ∧ va_Z "MapPieces$Ring" (sw_nm k) "[I" (.ref (adS k)) (AB s.heap.size) s s.heap) ∧
  va_Z "java/lang/String" "COMPACT_STRINGS" "Z" (.int 1) (AB s.heap.size) s s.heap ∧
  va_Z "jdk/internal/util/Preconditions" "SIOOBE_FORMATTER" "Ljava/util/function/BiFunction;" (fmV q) (AB s.heap.size) s s.heap
theorem strR : ∀ i, i < 13 → ∃ q, wpick q = some (.stringRef (st_own.getD i ("", 0, "")).1 (st_own.getD i ("", 0, "")).2.1 (st_own.getD i ("", 0, "")).2.2)
  | 0, _ => ⟨(2, 109), rfl⟩
  | 1, _ => ⟨(2, 214), rfl⟩
  | 2, _ => ⟨(2, 225), rfl⟩
  | 3, _ => ⟨(3, 9), rfl⟩
  | 4, _ => ⟨(2, 237), rfl⟩
  | 5, _ => ⟨(3, 2), rfl⟩
  | 6, _ => ⟨(3, 3), rfl⟩
  | 7, _ => ⟨(3, 4), rfl⟩
  | 8, _ => ⟨(5, 135), rfl⟩
  | 9, _ => ⟨(5, 137), rfl⟩
  | 10, _ => ⟨(5, 138), rfl⟩
  | 11, _ => ⟨(5, 139), rfl⟩
  | 12, _ => ⟨(5, 140), rfl⟩
  | i + 13, h => by omega
theorem strL : ∀ i, i < 13 → st_len.getD i 0 < 2 ^ 31
  | 0, _ => by decide
  | 1, _ => by decide
  | 2, _ => by decide
  | 3, _ => by decide
  | 4, _ => by decide
  | 5, _ => by decide
  | 6, _ => by decide
  | 7, _ => by decide
  | 8, _ => by decide
  | 9, _ => by decide
  | 10, _ => by decide
  | 11, _ => by decide
  | 12, _ => by decide
  | i + 13, h => by omega
theorem fCS : inL (.eq (.static "java/lang/String" "COMPACT_STRINGS" "Z") (.int 1)) = true := by decide +kernel
theorem fSI : inL (.isRef (.static "jdk/internal/util/Preconditions" "SIOOBE_FORMATTER" "Ljava/util/function/BiFunction;")) = true := by decide +kernel
theorem st_ok {b : Nat} {s : State} (hts : ∀ w ∈ lw_tbl, w.before #[Value.ref b] s = true) (hgv : (Jvm.Cond.and given_1 narrow_1).before #[Value.ref b] s = true) : ∃ adS adK adV q, ST b adS adK adV q s := by
  have hA : ∀ a : Nat, a < s.heap.size → ¬ AB s.heap.size a := fun a h1 h2 => Nat.lt_irrefl _ (Nat.lt_of_lt_of_le h1 h2)
  have hstr : ∀ i, i < 13 → ((Cond.exactly (st_tm i) "java/lang/String").before #[Value.ref b] s = true ∧ (Cond.eq (.field (st_tm i) "java/lang/String" "coder" "B") (.int 0)).before #[Value.ref b] s = true ∧ (Cond.arrayOf (.field (st_tm i) "java/lang/String" "value" "[B") .byte).before #[Value.ref b] s = true ∧ (Cond.eq (.length (.field (st_tm i) "java/lang/String" "value" "[B")) (.int (Int32.ofNat (st_len.getD i 0)))).before #[Value.ref b] s = true ∧
      ∀ j, j < st_len.getD i 0 → (Cond.eq (.elem (.field (st_tm i) "java/lang/String" "value" "[B") (.int (Int32.ofNat j))) (.int ((st_byt.getD i []).getD j 0))).before #[Value.ref b] s = true) := by
    intro i hi
    have h := fStr_ok hi
    unfold fStr at h
    obtain ⟨h, h5⟩ := Bool.and_eq_true_iff.mp h
    obtain ⟨h, h4⟩ := Bool.and_eq_true_iff.mp h
    obtain ⟨h, h3⟩ := Bool.and_eq_true_iff.mp h
    obtain ⟨h1, h2⟩ := Bool.and_eq_true_iff.mp h
    exact ⟨inL_ok hgv h1, inL_ok hgv h2, inL_ok hgv h3, inL_ok hgv h4, fun j hj => inL_ok hgv (List.all_eq_true.mp h5 j (List.mem_range.mpr hj))⟩
  have hne : ∀ i j : Nat, i < 13 → j < 13 → i ≠ j → (Cond.not (Cond.eq (st_tm i) (st_tm j))).before #[Value.ref b] s = true ∨ (Cond.not (Cond.eq (st_tm j) (st_tm i))).before #[Value.ref b] s = true := by
    have one : ∀ i j : Nat, i < 13 → j < i → (Cond.not (Cond.eq (st_tm i) (st_tm j))).before #[Value.ref b] s = true ∨ (Cond.not (Cond.eq (st_tm j) (st_tm i))).before #[Value.ref b] s = true := by
      intro i j hi hj
      have h := fNe_ok hi
      unfold fNe at h
      rcases Bool.or_eq_true_iff.mp (List.all_eq_true.mp h j (List.mem_range.mpr hj)) with z | z
      · exact Or.inl (inL_ok hgv z)
      · exact Or.inr (inL_ok hgv z)
    intro i j hi hj hij
    rcases Nat.lt_or_gt_of_ne hij with z | z
    · exact (one j i hj z).symm
    · exact one i j hi z
  obtain ⟨adK, adV, hS, hT⟩ := vk_Sof (A := AB s.heap.size) strL (fun i hi => (hstr i hi).1) (fun i hi => (hstr i hi).2.1) (fun i hi => (hstr i hi).2.2.1) (fun i hi => (hstr i hi).2.2.2.1) (fun i hi => (hstr i hi).2.2.2.2) hne hA
  have hsw : ∀ k : Nat, ∃ t : Nat, 1 ≤ k → k ≤ 3 → va_T .int t (sw_len k) (fun j => .int ((sw_tab k).getD j 0)) (AB s.heap.size) s s.heap ∧ va_Z "MapPieces$Ring" (sw_nm k) "[I" (.ref t) (AB s.heap.size) s s.heap := by
    intro k
    by_cases hk : 1 ≤ k ∧ k ≤ 3
    · have h := fSw_ok hk.1 hk.2
      unfold fSw at h
      obtain ⟨h, h4⟩ := Bool.and_eq_true_iff.mp h
      obtain ⟨h, h3⟩ := Bool.and_eq_true_iff.mp h
      obtain ⟨h1, h2⟩ := Bool.and_eq_true_iff.mp h
      obtain ⟨t, ht, hT⟩ := va_Tof (f := fun j => .int ((sw_tab k).getD j 0)) (A := AB s.heap.size) (N := sw_len k) (sw_lt k) (inL_ok hgv h2) (va_eqt (inL_ok hgv h3)) (fun j hj => va_eqt (inL_ok hgv (List.all_eq_true.mp h4 j (List.mem_range.mpr hj)))) hA
      refine ⟨t, fun _ _ => ⟨hT, va_Zof ?_ (tw hts (w := .initialized "MapPieces$Ring") (0, 24) rfl) ht hA⟩⟩
      match k, hk with
      | 1, _ => exact tw hts (3, 198) rfl
      | 2, _ => exact tw hts (3, 200) rfl
      | 3, _ => exact tw hts (3, 202) rfl
      | 0, hk => omega
      | k + 4, hk => omega
    · exact ⟨0, fun h1 h2 => absurd ⟨h1, h2⟩ hk⟩
  obtain ⟨adS, hadS⟩ := Classical.axiomOfChoice hsw
  have hcs := va_Zof (A := AB s.heap.size) (tw hts (w := .laysStatic "java/lang/String" "COMPACT_STRINGS" "Z") (2, 123) rfl) (tw hts (w := .initialized "java/lang/String") (0, 18) rfl) (va_eqi (inL_ok hgv fCS)) hA
  obtain ⟨v, hv, hvr⟩ := Cond.isRef_spec (inL_ok hgv fSI)
  have hsi := va_Zof (A := AB s.heap.size) (tw hts (w := .laysStatic "jdk/internal/util/Preconditions" "SIOOBE_FORMATTER" "Ljava/util/function/BiFunction;") (2, 139) rfl) (tw hts (w := .initialized "jdk/internal/util/Preconditions") (0, 20) rfl) hv hA
  have hq : ∃ q : Nat, v = fmV q := by
    cases v with
    | null => exact ⟨0, rfl⟩
    | ref r => exact ⟨r + 1, rfl⟩
    | _ => cases hvr
  obtain ⟨q, rfl⟩ := hq
  refine ⟨adS, adK, adV, q, hS, fun i hi => ?_, hadS, hcs, hsi⟩
  obtain ⟨p, hp⟩ := strR i hi
  exact vk_R.of (A := #[Value.ref b]) (tw hts p hp) (hT i hi)
def nestP : List (Nat × Nat) := [(0, 38), (0, 79), (0, 98), (0, 203), (0, 223), (0, 229), (1, 35), (1, 40), (1, 60), (1, 65), (5, 6)]
def ckNest (own : String) (r : Nat × Nat × Nat × Nat × Nat) : Bool := !(Nat.beq r.2.1 4 || (Nat.beq r.2.1 1 && Nat.beq r.2.2.2.2 1)) || (match pm_inf (r.2.2.1, r.2.2.2.1) with
  | some inf => decide (some (Cond.methodLinkNest own r.1 inf.1 "MapPieces") ∈ nestP.map wpick)
  | none => true)
theorem ckNest_all : (z_own pm_mls).all (fun o => o.2.all (ckNest o.1)) = true := by decide +kernel
theorem st_nest {args : Array Value} {s : State} (hts : ∀ w ∈ lw_tbl, w.before args s = true) : ∀ oi own ix k a b rk inf, pl_at pm_own oi = some own → pm_mth oi ix = some (k, a, b, rk) → (k = 4 ∨ (k = 1 ∧ rk = 1)) → pm_inf (a, b) = some inf → ∃ host, va_Nw (.methodLinkNest own ix inf.1 host) s := by
  intro oi own ix k a b rk inf ho hm hk hi
  obtain ⟨l, g1, g2⟩ := bind_mem hm
  have hc := List.all_eq_true.mp (List.all_eq_true.mp ckNest_all (own, l) (pl_zip _ _ _ _ _ ho g1)) _ g2
  have hc : (!(Nat.beq k 4 || (Nat.beq k 1 && Nat.beq rk 1)) || (match pm_inf (a, b) with
    | some inf => decide (some (Cond.methodLinkNest own ix inf.1 "MapPieces") ∈ nestP.map wpick)
    | none => true)) = true := hc
  rw [hi] at hc
  have h1 : (Nat.beq k 4 || (Nat.beq k 1 && Nat.beq rk 1)) = true := by
    rcases hk with rfl | ⟨rfl, rfl⟩ <;> rfl
  rw [h1] at hc
  have hc : some (Cond.methodLinkNest own ix inf.1 "MapPieces") ∈ nestP.map wpick := of_decide_eq_true hc
  obtain ⟨q, -, hq⟩ := List.mem_map.mp hc
  exact ⟨"MapPieces", va_Nw.of rfl (tw hts q hq)⟩
theorem st_decl {args : Array Value} {s : State} (hts : ∀ w ∈ lw_tbl, w.before args s = true) : ∀ Y ∈ xsup, va_Nw (.declares (Bundle.init0 Y)) s := by
  intro Y hY
  unfold xsup at hY
  simp only [List.mem_cons, List.not_mem_nil, or_false] at hY
  rcases hY with rfl | rfl | rfl
  · exact va_Nw.of rfl (tw hts (2, 14) rfl)
  · exact va_Nw.of rfl (tw hts (2, 16) rfl)
  · exact va_Nw.of rfl (tw hts (2, 18) rfl)
theorem st_cast {args : Array Value} {s : State} (hts : ∀ w ∈ lw_tbl, w.before args s = true) : ∀ k E, pl_at pm_exs k = some E → va_Nw (.castable E E) s ∧ ∀ Y ∈ xsup, va_Nw (.declares (Bundle.init0 Y)) s
  | 0, E, h => by cases h; exact ⟨va_Nw.of rfl (tw hts (2, 13) rfl), st_decl hts⟩
  | 1, E, h => by cases h; exact ⟨va_Nw.of rfl (tw hts (3, 238) rfl), st_decl hts⟩
  | 2, E, h => by cases h; exact ⟨va_Nw.of rfl (tw hts (4, 208) rfl), st_decl hts⟩
  | k + 3, E, h => by cases h
theorem fNC : (List.range 3).all (fun i => (List.range 3).all (fun j => Nat.beq i j || (match pl_at pm_exs i, pl_at pm_exs j with
    | some E, some E' => inL (.not (.castable E E'))
    | _, _ => false))) = true := by decide +kernel
theorem st_nc {args : Array Value} {s : State} (hgv : (Jvm.Cond.and given_1 narrow_1).before args s = true) : ∀ k k' E E', k ≠ k' → pl_at pm_exs k = some E → pl_at pm_exs k' = some E' → va_Nc E E' s := by
  intro k k' E E' hne h1 h2
  have l1 : k < 3 := pl_at_lt _ _ _ h1
  have l2 : k' < 3 := pl_at_lt _ _ _ h2
  have h := List.all_eq_true.mp (List.all_eq_true.mp fNC k (List.mem_range.mpr l1)) k' (List.mem_range.mpr l2)
  rcases Bool.or_eq_true_iff.mp h with z | z
  · exact absurd (Nat.eq_of_beq_eq_true z) hne
  · rw [h1, h2] at z
    exact va_Nc.of (inL_ok hgv z)
end
