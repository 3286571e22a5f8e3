/-! ===== objects and arrays that are made ===== -/
noncomputable section
theorem okR.new {h : PM} {kd n sl : Nat} {r : Rf} (hr : okR h r) : okR (m_new h kd n sl) r := by
  intro k' n' a hq
  obtain ⟨q1, q2, q3, q4⟩ := hr k' n' a hq
  have ha : a ≠ m_sz h := by omega
  refine ⟨?_, ?_, ?_, q4⟩
  · show a < m_sz h + 1
    omega
  · show (up1 h.2.2.1 (m_sz h) (kd, n) a).1 = k'
    rw [up1_ne ha]; exact q2
  · show (up1 h.2.2.1 (m_sz h) (kd, n) a).2 = n'
    rw [up1_ne ha]; exact q3
theorem okV.new {h : PM} {kd n sl : Nat} {v : PV} (hv : okV h v) : okV (m_new h kd n sl) v := by
  rcases v with y | y | r
  · exact hv
  · exact hv
  · exact okR.new hv
theorem tv_up {ad : Nat → Nat} {h : PM} {q : Nat} {v : PV} (hv : okV h v) : tv (up1 ad (m_sz h) q) v = tv ad v := by
  rcases v with y | y | r
  · rfl
  · rfl
  · cases r with
    | none => rfl
    | some z =>
      obtain ⟨kd, n, a⟩ := z
      obtain ⟨q1, -⟩ := hv kd n a rfl
      show (if kd = 8 then (match up1 ad (m_sz h) q a with
        | 0 => Value.null
        | q + 1 => .ref q) else .ref (up1 ad (m_sz h) q a)) = _
      rw [up1_ne (by omega)]
      rfl
theorem rfa_up {ad : Nat → Nat} {h : PM} {q : Nat} {r : Rf} (hv : okR h r) : rfa (up1 ad (m_sz h) q) r = rfa ad r := by
  cases r with
  | none => rfl
  | some z =>
    obtain ⟨kd, n, a⟩ := z
    obtain ⟨q1, -⟩ := hv kd n a rfl
    show (if kd = 8 then (match up1 ad (m_sz h) q a with
      | 0 => none
      | q + 1 => some q) else some (up1 ad (m_sz h) q a)) = _
    rw [up1_ne (by omega)]
    rfl
/-- cells that stood before stay as they are -/
theorem cel_new {cA : Nat → ClassId} {ad : Nat → Nat} {h : PM} (hh : okH h) {kd n sl q i : Nat} (h31 : 31 ≤ i) (hi : i < m_sz h) : cel cA (up1 ad (m_sz h) q) (m_new h kd n sl) i = cel cA ad h i := by
  have hne : i ≠ m_sz h := by omega
  have e1 : (m_new h kd n sl).1 i = h.1 i := up1_ne hne
  have e2 : (m_new h kd n sl).2.1 i = h.2.1 i := up1_ne hne
  have e3 : (m_new h kd n sl).2.2.1 i = h.2.2.1 i := up1_ne hne
  rw [cel_same (ad := up1 ad (m_sz h) q) e1 e2 e3]
  have k1 : (m_kd h i = 3 ∨ m_kd h i = 4) → ra (up1 ad (m_sz h) q) h i = ra ad h i := by
    intro hk
    funext j
    exact rfa_up (okC_r hh hi hk)
  have k2 : ∀ ts k0, (∀ j t, ts[j]? = some t → t = 3 → okR h (h.2.1 i (k0 + j))) → fvs (up1 ad (m_sz h) q) h i ts k0 = fvs ad h i ts k0 := by
    intro ts
    induction ts with
    | nil => intro k0 _; rfl
    | cons t ts ih =>
      intro k0 hr
      show fv (up1 ad (m_sz h) q) h i t k0 :: fvs (up1 ad (m_sz h) q) h i ts (k0 + 1) = fv ad h i t k0 :: fvs ad h i ts (k0 + 1)
      rw [ih (k0 + 1) (fun j t' hj ht => by
        have := hr (j + 1) t' (by rw [List.getElem?_cons_succ]; exact hj) ht
        rw [show k0 + 1 + j = k0 + (j + 1) by omega]; exact this)]
      unfold fv
      by_cases t2 : t = 2
      · rw [if_pos t2, if_pos t2]
      · by_cases t3 : t = 3
        · rw [if_neg t2, if_neg t2, if_pos t3, if_pos t3, tv_up (h := h) (v := vR (h.2.1 i k0)) (hr 0 t (by rfl) t3)]
        · rw [if_neg t2, if_neg t2, if_neg t3, if_neg t3]
  rcases hh.2.1 i h31 hi with hk | hk
  · rcases (show m_kd h i = 0 ∨ m_kd h i = 1 ∨ m_kd h i = 2 ∨ m_kd h i = 3 ∨ m_kd h i = 4 by omega) with z | z | z | z | z
    · rw [cel_i z, cel_i z]
    · rw [cel_b z, cel_b z]
    · rw [cel_l z, cel_l z]
    · rw [cel_p z, cel_p z, k1 (Or.inl z)]
    · rw [cel_r z, cel_r z, k1 (Or.inr z)]
  · obtain ⟨ci, hci⟩ : ∃ ci, m_kd h i = 10 + ci := ⟨m_kd h i - 10, by omega⟩
    rw [cel_obj hci, cel_obj hci, k2]
    intro j t hj ht
    rw [Nat.zero_add]
    have h0 := hh.2.2 i j hi
    unfold okC at h0
    have hc : ctg (m_kd h i) j = 3 := by
      unfold ctg
      rw [if_neg (by omega), if_neg (by omega), if_neg (by omega), if_pos (by omega), hci, show 10 + ci - 10 = ci by omega, pl_at_eq, hj]
      exact ht
    rw [hc, if_neg (by decide), if_pos rfl] at h0
    exact h0
theorem okH.new {h : PM} (hh : okH h) {kd n sl : Nat} (hk : okK kd) : okH (m_new h kd n sl) := by
  refine ⟨by show 31 ≤ m_sz h + 1; have := hh.1; omega, fun i h31 hi => ?_, fun i j hi => ?_⟩
  · have hi : i < m_sz h + 1 := hi
    by_cases hq : i = m_sz h
    · subst hq
      show okK (up1 h.2.2.1 (m_sz h) (kd, n) (m_sz h)).1
      rw [up1_eq]; exact hk
    · show okK (up1 h.2.2.1 (m_sz h) (kd, n) i).1
      rw [up1_ne hq]; exact hh.2.1 i h31 (by omega)
  · have hi : i < m_sz h + 1 := hi
    unfold okC
    by_cases hq : i = m_sz h
    · subst hq
      have e1 : (m_new h kd n sl).1 (m_sz h) = fun _ => 0 := up1_eq
      have e2 : (m_new h kd n sl).2.1 (m_sz h) = fun _ => none := up1_eq
      rw [e1, e2]
      split
      · show cnL 0
        unfold cnL; decide
      · split
        · intro k' n' a hq; cases hq
        · exact cn_0
    · have e1 : (m_new h kd n sl).1 i = h.1 i := up1_ne hq
      have e2 : (m_new h kd n sl).2.1 i = h.2.1 i := up1_ne hq
      have e3 : m_kd (m_new h kd n sl) i = m_kd h i := by
        show (up1 h.2.2.1 (m_sz h) (kd, n) i).1 = _
        rw [up1_ne hq]; rfl
      rw [e1, e2, e3]
      have h0 := hh.2.2 i j (by omega)
      unfold okC at h0
      by_cases t2 : ctg (m_kd h i) j = 2
      · rw [if_pos t2] at h0 ⊢; exact h0
      · rw [if_neg t2] at h0 ⊢
        by_cases t3 : ctg (m_kd h i) j = 3
        · rw [if_pos t3] at h0 ⊢; exact h0.new
        · rw [if_neg t3] at h0 ⊢; exact h0
section Steps
variable {p : Program} {l : Launch} {e : Env} {R : Room} {s : State} {m : MethodId} {args : Array Value} {below : List Frame} {meth : Method} {c : Code} {Q : State → Prop}
variable {X : RX} {D : va_G} {cA : Nat → ClassId} {base nL c0 k0 cF kF : Nat}
/-- behind what is made: the new configuration's goal gives the machine's -/
theorem made_go {pc' kd n sl q : Nat} {ls : PLs} {st : List PV} {h : PM} {E : va_E} (hk : okK kd) (K : GG p l e R s m args below meth c Q X D cA base nL c0 k0 cF kF (pc', ls, vR (some (kd, n, m_sz h)) :: st, m_new h kd n sl)) (hcF : m_ce h + 1 ≤ cF) (hkF : m_sl h + sl ≤ kF)
    {ad : Nat → Nat} {lsR : Array Slot} {H H1 : Heap} {locs : List Loc} (hP : PI X D cA base ad h s H locs) (hL : LR ad ls lsR nL) (hT : okT h st) (hl : okL h ls) (h1 : c0 ≤ m_ce h) (h2 : k0 ≤ m_sl h) (hE : cel cA (up1 ad (m_sz h) q) (m_new h kd n sl) (m_sz h) = E)
    (g1 : va_P D vwCl (wd cA ad h ++ [(q, E)]) H1) (g2 : va_D (AB base) (wd cA ad h ++ [(q, E)])) (g3 : va_S (AB base) s.heap H1 locs) : W p l e R s m args below meth c H1 locs ((m_ce h - c0) + 1) ((m_sl h - k0) + sl) Q (F0 m pc' lsR (.ref q :: st.map (tv ad))) := by
  have hok := hP.2.2.2.1
  have hw : wd cA (up1 ad (m_sz h) q) (m_new h kd n sl) = wd cA ad h ++ [(q, E)] := by
    rw [wd_push (h := h) (h' := m_new h kd n sl) (ad := ad) (ad' := up1 ad (m_sz h) q) hok.1 rfl (fun i h31 hi => ⟨up1_ne (by omega), cel_new hok h31 hi⟩), hE, up1_eq]
  have hPI : PI X D cA base (up1 ad (m_sz h) q) (m_new h kd n sl) s H1 locs := by
    refine ⟨by rw [hw]; exact g1, by rw [hw]; exact g2, g3, hok.new hk, ?_⟩
    intro i hi
    obtain ⟨z1, z2, z3, z4⟩ := hP.2.2.2.2 i hi
    have hne : i ≠ m_sz h := by have := hok.1; omega
    exact ⟨(up1_ne hne).trans z1, (up1_ne hne).trans z2, (up1_ne hne).trans z3, (up1_ne hne).trans z4.1, by show _ ≤ m_sz h + 1; have := z4.2.1; omega, fun j hj => (up1_ne (by have := z4.2.1; omega)).trans (z4.2.2 j hj)⟩
  have hnew : okV (m_new h kd n sl) (vR (some (kd, n, m_sz h))) := by
    intro k' n' a hq
    cases hq
    refine ⟨?_, ?_, ?_, ?_⟩
    · show m_sz h < m_sz h + 1; omega
    · show (up1 h.2.2.1 (m_sz h) (kd, n) (m_sz h)).1 = kd; rw [up1_eq]
    · show (up1 h.2.2.1 (m_sz h) (kd, n) (m_sz h)).2 = n; rw [up1_eq]
    · have := hok.1
      constructor
      · intro _; unfold okK at hk; omega
      · intro _; exact this
  have := K (up1 ad (m_sz h) q) lsR H1 locs hPI (hL.keep (fun v hv => tv_up (hl v hv))) (okT.cons hnew (fun w hw => (hT w hw).new)) (fun w hw => (hl w hw).new)
    (by show c0 ≤ m_ce h + 1; omega) (by show k0 ≤ m_sl h + sl; omega) (by show m_ce h + 1 ≤ cF; exact hcF) (by show m_sl h + sl ≤ kF; exact hkF)
  have this : W p l e R s m args below meth c H1 locs (m_ce h + 1 - c0) (m_sl h + sl - k0) Q (F0 m pc' lsR (tv (up1 ad (m_sz h) q) (vR (some (kd, n, m_sz h))) :: st.map (tv (up1 ad (m_sz h) q)))) := this
  rw [tv_ref (by unfold okK at hk; omega), up1_eq, show st.map (tv (up1 ad (m_sz h) q)) = st.map (tv ad) from List.map_congr_left (fun v hv => tv_up (hT v hv)), show m_ce h + 1 - c0 = (m_ce h - c0) + 1 by omega, show m_sl h + sl - k0 = (m_sl h - k0) + sl by omega] at this
  exact this
theorem new_ln {h : PM} {kd n sl : Nat} : m_ln (m_new h kd n sl) (m_sz h) = n := by
  show (up1 h.2.2.1 (m_sz h) (kd, n) (m_sz h)).2 = n; rw [up1_eq]
theorem new_kd {h : PM} {kd n sl : Nat} : m_kd (m_new h kd n sl) (m_sz h) = kd := by
  show (up1 h.2.2.1 (m_sz h) (kd, n) (m_sz h)).1 = kd; rw [up1_eq]
theorem new_1 {h : PM} {kd n sl : Nat} : (m_new h kd n sl).1 (m_sz h) = fun _ => 0 := up1_eq
theorem new_2 {h : PM} {kd n sl : Nat} : (m_new h kd n sl).2.1 (m_sz h) = fun _ => none := up1_eq
theorem ro_of {ad : Nat → Nat} {h : PM} {H : Heap} {locs : List Loc} {n : Int} (hn : cnI n) (h0 : 0 ≤ n) : ¬ p_I n < 0 := fun z => absurd ((cn_lt hn cn_0).mp z) (by omega)
theorem sn_newa {kd pc : Nat} {ls : PLs} {st : List PV} {h : PM} {cf : PCf} {cc : ByteArray} {at0 : ArrayType} {ty : FieldType} (hexec : p.tables.exec = Jvm.exec) (hb : c.code = cc) (hK : va_K D vwCl (tys5 cA) s) (hA : ∀ q, s.heap.size ≤ q → AB base q) (harr : (Cond.arrayClass (newarray.typeOf at0)).before args s = true) (hty : newarray.typeOf at0 = ty)
    (hkd : kd ≤ 2) (hprim : ∀ cA' : ClassId, (ArrOfT s cA' ty ∧ va_RA s cA' ty) → cA' = cA kd) (hdef : ∀ (ad : Nat → Nat) (n : Nat) (cA' : ClassId), cA' = cA kd → ∃ a0 : vp_A, cel cA (up1 ad (m_sz h) 0) (m_new h kd n n) (m_sz h) = .inl (cA kd, a0) ∧ (∀ q, cel cA (up1 ad (m_sz h) q) (m_new h kd n n) (m_sz h) = .inl (cA kd, a0)) ∧ ∀ c9 : ClassId, vp_cell c9 a0 = arrV c9 n (fun _ => defaultValue ty)) (hby : componentBytes ty ≤ 8)
    (hRc : cF - c0 ≤ R.cells) (hRs : kF - k0 ≤ R.slots) (hcF : m_ce cf.2.2.2 ≤ cF) (hkF : m_sl cf.2.2.2 ≤ kF) (hd : decode cc pc = .ok (.newarray at0, 2)) (hs : p_newa kd pc 2 ls st h = some (.inl cf))
    (K : GG p l e R s m args below meth c Q X D cA base nL c0 k0 cF kF cf) : GG p l e R s m args below meth c Q X D cA base nL c0 k0 cF kF (pc, ls, st, h) := by
  match st, hs with
  | .inl x :: st, hs =>
    unfold p_newa at hs
    cases hc : (decide (0 ≤ x) && decide (x ≤ 100000)) with
    | false => simp only [hc, cond_false] at hs; cases hs
    | true =>
      simp only [hc, cond_true] at hs
      cases nx_inj hs
      simp only [Bool.and_eq_true, decide_eq_true_eq] at hc
      obtain ⟨hx0, hx1⟩ := hc
      intro ad lsR H locs hP hL hT hl h1 h2 h3 h4
      have hcx : cnI x := hT.head
      have h1 : c0 ≤ m_ce h := h1
      have h2 : k0 ≤ m_sl h := h2
      have hcF : m_ce h + 1 ≤ cF := hcF
      have hkF : m_sl h + x.toNat ≤ kF := hkF
      obtain ⟨a0, -, hEq, hcell⟩ := hdef ad x.toNat (cA kd) rfl
      show W p l e R s m args below meth c H locs (m_ce h - c0) (m_sl h - k0) Q (F0 m pc lsR (.int (p_I x) :: st.map (tv ad)))
      have hmul : x.toNat * componentBytes ty ≤ 536870912 := by
        have : x.toNat * componentBytes ty ≤ 100000 * 8 := Nat.mul_le_mul (by omega) hby
        omega
      refine va_newa (atype := at0) (ty := ty) (a0 := a0) hexec hb harr hty hK hP.1 hP.2.1 hP.2.2.1 hA hcell (ro_of (ad := ad) (h := h) (H := H) (locs := locs) hcx hx0) (cn_nat hcx hx0) hmul (by omega) (by omega) hd (fun q cA' H1 g0 g1 g2 g3 => ?_)
      have hcA : cA' = cA kd := hprim cA' (g0.2 5 (cA', ty) rfl)
      rw [hcA] at g1 g2
      exact made_go (E := .inl (cA kd, a0)) (Or.inl (by omega)) K hcF hkF hP hL hT.tail hl h1 h2 (hEq q) g1 g2 g3
theorem sn_newr {mi : Nat × Nat} {kd pc ix : Nat} {ls : PLs} {st : List PV} {h : PM} {cf : PCf} {cc : ByteArray} {own C : String} (hexec : p.tables.exec = Jvm.exec) (hb : c.code = cc) (hown : s.vm.findClass own = some m.cls) (hclink : (Cond.classLink own ix C).before args s = true) (hover : va_AO C s) (hK : va_K D vwCl (tys5 cA) s) (hA : ∀ q, s.heap.size ≤ q → AB base q)
    (hkC : (kd = 3 ∧ C = "MapPieces$Piece") ∨ (kd = 4 ∧ C = "MapPieces$Ring")) (hRc : cF - c0 ≤ R.cells) (hRs : kF - k0 ≤ R.slots) (hcF : m_ce cf.2.2.2 ≤ cF) (hkF : m_sl cf.2.2.2 ≤ kF) (hd : decode cc pc = .ok (.anewarray ix, 3)) (hs : p_newa kd pc 3 ls st h = some (.inl cf))
    (K : GG p l e R s m args below meth c Q X D cA base nL c0 k0 cF kF cf) : GG p l e R s m args below meth c Q X D cA base nL c0 k0 cF kF (pc, ls, st, h) := by
  match st, hs with
  | .inl x :: st, hs =>
    unfold p_newa at hs
    cases hc : (decide (0 ≤ x) && decide (x ≤ 100000)) with
    | false => simp only [hc, cond_false] at hs; cases hs
    | true =>
      simp only [hc, cond_true] at hs
      cases nx_inj hs
      simp only [Bool.and_eq_true, decide_eq_true_eq] at hc
      obtain ⟨hx0, hx1⟩ := hc
      intro ad lsR H locs hP hL hT hl h1 h2 h3 h4
      have hcx : cnI x := hT.head
      have h1 : c0 ≤ m_ce h := h1
      have h2 : k0 ≤ m_sl h := h2
      have hcF : m_ce h + 1 ≤ cF := hcF
      have hkF : m_sl h + x.toNat ≤ kF := hkF
      show W p l e R s m args below meth c H locs (m_ce h - c0) (m_sl h - k0) Q (F0 m pc lsR (.int (p_I x) :: st.map (tv ad)))
      refine va_newq (C := C) hexec hb hown hclink hover hK hP.1 hP.2.1 hP.2.2.1 hA (ro_of (ad := ad) (h := h) (H := H) (locs := locs) hcx hx0) (cn_nat hcx hx0) (by omega) (by omega) (by omega) hd (fun q cA' H1 g0 g1 g2 g3 => ?_)
      have hnone : ∀ kd n sl q, ra (up1 ad (m_sz h) q) (m_new h kd n sl) (m_sz h) = fun _ => none := by
        intro kd n sl q
        funext j
        show rfa _ ((m_new h kd n sl).2.1 (m_sz h) j) = none
        rw [new_2]
        rfl
      rcases hkC with ⟨rfl, rfl⟩ | ⟨rfl, rfl⟩
      · have hcA : cA' = cA 3 := by
          obtain ⟨-, kA, comp, -, -, -, f4⟩ := g0.2 5 (cA', .object "MapPieces$Piece") rfl
          obtain ⟨-, kA2, comp2, -, -, -, f5⟩ := g0.2 3 (cA 3, .object "MapPieces$Piece") rfl
          exact Option.some.inj (f4.symm.trans f5)
        rw [hcA] at g1 g2
        exact made_go (E := .inl (cA 3, x.toNat, .inr (.inr (.inr (.inr (fun _ => none)))))) (Or.inl (by omega)) K hcF hkF hP hL hT.tail hl h1 h2 (by rw [cel_p new_kd, new_ln, hnone]) g1 g2 g3
      · have hcA : cA' = cA 4 := by
          obtain ⟨-, kA, comp, -, -, -, f4⟩ := g0.2 5 (cA', .object "MapPieces$Ring") rfl
          obtain ⟨-, kA2, comp2, -, -, -, f5⟩ := g0.2 4 (cA 4, .object "MapPieces$Ring") rfl
          exact Option.some.inj (f4.symm.trans f5)
        rw [hcA] at g1 g2
        exact made_go (E := .inl (cA 4, x.toNat, .inr (.inr (.inr (.inr (fun _ => none)))))) (Or.inl (by omega)) K hcF hkF hP hL hT.tail hl h1 h2 (by rw [cel_r new_kd, new_ln, hnone]) g1 g2 g3
theorem sn_newo {ci N pc ix : Nat} {ls : PLs} {st : List PV} {h : PM} {cc : ByteArray} {own C : String} {T : u_T} {ty : Nat → FieldType} {Ts : List Cond} (hexec : p.tables.exec = Jvm.exec) (hb : c.code = cc) (hown : s.vm.findClass own = some m.cls) (hts : ∀ w ∈ Ts, w.before args s = true) (hC : CLS Ts ci C T N ty) (hci : 0 < ci)
    (hclink : (Cond.classLink own ix C).before args s = true) (hinst : (Cond.instantiable C N).before args s = true) (hini : (Cond.initialized C).before args s = true) (hK : va_K D vwCl (tys5 cA) s) (hA : ∀ q, s.heap.size ≤ q → AB base q)
    (hRc : cF - c0 ≤ R.cells) (hRs : kF - k0 ≤ R.slots) (hcF : m_ce h + 1 ≤ cF) (hkF : m_sl h + N ≤ kF) (hd : decode cc pc = .ok (.new ix, 3))
    (K : GG p l e R s m args below meth c Q X D cA base nL c0 k0 cF kF (pc + 3, ls, vR (some (10 + ci, 0, m_sz h)) :: st, m_new h (10 + ci) 0 N)) : GG p l e R s m args below meth c Q X D cA base nL c0 k0 cF kF (pc, ls, st, h) := by
  obtain ⟨hC1, hC2, hC3, hC4, hC5, hC6⟩ := hC
  have hci13 : ci < 13 := (List.getElem?_eq_some_iff.mp hC1).1
  intro ad lsR H locs hP hL hT hl h1 h2 h3 h4
  have hfs : ∀ q j, j < N → defaultValue (ty j) = vp_V (fvs (up1 ad (m_sz h) q) (m_new h (10 + ci) 0 N) (m_sz h) (fts ci) 0) j := by
    intro q j hj
    obtain ⟨q1, q2, q3⟩ := hC6 j hj
    unfold vp_V
    rw [List.getD_eq_getElem?_getD, fvs_get, q1]
    show _ = fv (up1 ad (m_sz h) q) (m_new h (10 + ci) 0 N) (m_sz h) (tyTag (ty j)) (0 + j)
    unfold fv
    rw [new_1, new_2]
    have hnb := q3 hci
    cases hty : ty j with
    | int => rfl
    | byte => exact absurd hty hnb
    | boolean => rfl
    | long => rfl
    | object n => rfl
    | array t => rfl
    | _ => rw [hty] at q2; exact absurd q2 (by decide)
  have hconst : ∀ q, fvs (up1 ad (m_sz h) q) (m_new h (10 + ci) 0 N) (m_sz h) (fts ci) 0 = fvs (up1 ad (m_sz h) 0) (m_new h (10 + ci) 0 N) (m_sz h) (fts ci) 0 := by
    intro q
    apply List.ext_getElem?
    intro j
    rw [fvs_get, fvs_get]
    cases (fts ci)[j]? with
    | none => rfl
    | some t =>
      show some (fv _ _ _ t (0 + j)) = some (fv _ _ _ t (0 + j))
      unfold fv
      rw [new_2]
      rfl
  refine va_new (ci := ci) (fs := fvs (up1 ad (m_sz h) 0) (m_new h (10 + ci) 0 N) (m_sz h) (fts ci) 0) (C := C) (T := T) (N := N) hexec hb hts hC2 ty hC3 hown hclink hinst hini hK hP.1 hP.2.1 hP.2.2.1 hA hC1 (hfs 0) (by show (m_ce h - c0) + 1 ≤ R.cells; have h1 : c0 ≤ m_ce h := h1; omega) (by show (m_sl h - k0) + N ≤ R.slots; have h2 : k0 ≤ m_sl h := h2; omega) hd (fun q H1 g1 g2 g3 => ?_)
  exact made_go (E := .inr (ci, fvs (up1 ad (m_sz h) 0) (m_new h (10 + ci) 0 N) (m_sz h) (fts ci) 0)) (Or.inr (by omega)) K hcF hkF hP hL hT hl h1 h2 (by rw [cel_obj new_kd, hconst q]) g1 g2 g3
end Steps
end
