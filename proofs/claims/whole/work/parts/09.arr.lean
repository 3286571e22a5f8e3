/-! ===== arrays, and what is made ===== -/
noncomputable section
theorem rfa_tv {ad : Nat → Nat} (r : Rf) : va_rf (rfa ad r) = tv ad (vR r) := by
  cases r with
  | none => rfl
  | some z =>
    obtain ⟨kd, n, a⟩ := z
    by_cases h8 : kd = 8
    · subst h8
      show va_rf (if (8 : Nat) = 8 then (match ad a with
        | 0 => none
        | q + 1 => some q) else some (ad a)) = (if (8 : Nat) = 8 then (match ad a with
        | 0 => Value.null
        | q + 1 => .ref q) else .ref (ad a))
      rw [if_pos rfl, if_pos rfl]
      cases ad a <;> rfl
    · rw [tv_ref h8]
      show va_rf (if kd = 8 then _ else some (ad a)) = _
      rw [if_neg h8]
      rfl
theorem rfa_ref {ad : Nat → Nat} {kd n a : Nat} (h : kd ≠ 8) : rfa ad (some (kd, n, a)) = some (ad a) := by
  show (if kd = 8 then _ else some (ad a)) = _
  rw [if_neg h]
/-- arrays that are only read -/
def ROT (X : RX) (base : Nat) (s : State) : Prop := ∀ a, a < 31 → ((X.2.2.2 a).1 = 5 → va_T .int (X.1 a) (X.2.2.2 a).2 (fun j => .int (p_I (X.2.1 a j))) (AB base) s s.heap) ∧ ((X.2.2.2 a).1 = 7 → va_T .byte (X.1 a) (X.2.2.2 a).2 (fun j => .int (p_I (X.2.1 a j))) (AB base) s s.heap)
theorem p_in_iff {i : Int} {n : Nat} : p_in i n = true ↔ 0 ≤ i ∧ i < n := by
  unfold p_in
  simp only [Bool.and_eq_true, decide_eq_true_eq]
theorem ctg_i {kd j : Nat} (h : kd = 0 ∨ kd = 1 ∨ kd = 5 ∨ kd = 7) : ctg kd j ≠ 2 ∧ ctg kd j ≠ 3 := by
  unfold ctg
  rw [if_neg (by omega), if_neg (by omega), if_neg (by omega), if_neg (by omega)]
  decide
theorem okC_i {h : PM} (hh : okH h) {a j : Nat} (ha : a < m_sz h) (hk : m_kd h a = 0 ∨ m_kd h a = 1 ∨ m_kd h a = 5 ∨ m_kd h a = 7) : cnI (h.1 a j) := by
  have h0 := hh.2.2 a j ha
  unfold okC at h0
  rw [if_neg (ctg_i hk).1, if_neg (ctg_i hk).2] at h0
  exact h0
theorem okC_l {h : PM} (hh : okH h) {a j : Nat} (ha : a < m_sz h) (hk : m_kd h a = 2) : cnL (h.1 a j) := by
  have h0 := hh.2.2 a j ha
  unfold okC at h0
  have : ctg (m_kd h a) j = 2 := by unfold ctg; rw [if_pos hk]
  rw [if_pos this] at h0
  exact h0
theorem okC_r {h : PM} (hh : okH h) {a j : Nat} (ha : a < m_sz h) (hk : m_kd h a = 3 ∨ m_kd h a = 4) : okR h (h.2.1 a j) := by
  have h0 := hh.2.2 a j ha
  unfold okC at h0
  have : ctg (m_kd h a) j = 3 := by unfold ctg; rw [if_neg (by omega), if_pos hk]
  rw [this, if_neg (by decide), if_pos rfl] at h0
  exact h0
section Steps
variable {p : Program} {l : Launch} {e : Env} {R : Room} {s : State} {m : MethodId} {args : Array Value} {below : List Frame} {meth : Method} {c : Code} {Q : State → Prop}
variable {X : RX} {D : va_G} {cA : Nat → ClassId} {base nL c0 k0 cF kF : Nat}
theorem beq_t {a b : Nat} (h : Nat.beq a b = true) : a = b := Nat.eq_of_beq_eq_true h
theorem sn_iald {pc : Nat} {ls : PLs} {st : List PV} {h : PM} {cf : PCf} {cc : ByteArray} (hexec : p.tables.exec = Jvm.exec) (hb : c.code = cc) (hK : va_K D vwCl (tys5 cA) s) (hRo : ROT X base s) (hd : decode cc pc = .ok (.iaload, 1)) (hs : p_ald 0 5 0 pc ls st h = some (.inl cf))
    (K : GG p l e R s m args below meth c Q X D cA base nL c0 k0 cF kF cf) : GG p l e R s m args below meth c Q X D cA base nL c0 k0 cF kF (pc, ls, st, h) := by
  match st, hs with
  | .inl i :: .inr (.inr (some (kd, n, a))) :: st, hs =>
    unfold p_ald at hs
    cases hc : ((Nat.beq kd 0 || Nat.beq kd 5) && p_in i n) with
    | false => simp only [hc, cond_false] at hs; cases hs
    | true =>
      simp only [hc, cond_true] at hs
      cases nx_inj hs
      simp only [Bool.and_eq_true, Bool.or_eq_true] at hc
      obtain ⟨hk, hi⟩ := hc
      rw [p_in_iff] at hi
      intro ad lsR H locs hP hL hT hl h1 h2 h3 h4
      obtain ⟨r1, r2, r3, r4⟩ := hT.tail.head kd n a rfl
      have hci : cnI i := hT.head
      show W p l e R s m args below meth c H locs _ _ Q (F0 m pc lsR (.int (p_I i) :: tv ad (vR (some (kd, n, a))) :: st.map (tv ad)))
      rcases hk with hk | hk
      · have hk := beq_t hk
        subst hk
        have ha31 : 31 ≤ a := r4.mpr (by omega)
        have hg := wd_get (cA := cA) (ad := ad) ha31 r1
        rw [cel_i r2, r3] at hg
        rw [tv_ref (by omega)]
        refine va_iald hexec hb hK hP.1 (a - 31) 0 hg rfl ((cn_in hci).mpr hi) hd ?_
        rw [cn_nat hci hi.1]
        exact K ad lsR H locs hP hL (okT.cons (okC_i hP.2.2.2.1 r1 (Or.inl r2)) hT.tail.tail) hl h1 h2 h3 h4
      · have hk := beq_t hk
        subst hk
        have ha31 : a < 31 := by
          rcases Nat.lt_or_ge a 31 with z | z
          · exact z
          · exact absurd ⟨by omega, by omega⟩ (r4.mp z)
        obtain ⟨e1, e2, e3, e4⟩ := hP.2.2.2.2 a ha31
        have hsh : (X.2.2.2 a).1 = 5 := by rw [← e4.1]; exact r2
        have hln : (X.2.2.2 a).2 = n := by rw [← e4.1]; exact r3
        have hT0 := (hRo a ha31).1 hsh
        rw [hln] at hT0
        rw [tv_ref (by omega), e1]
        refine va_ti hexec hb hT0 hP.2.2.1 ((cn_in hci).mpr hi) rfl hd ?_
        rw [cn_nat hci hi.1, ← e2]
        exact K ad lsR H locs hP hL (okT.cons (okC_i hP.2.2.2.1 r1 (Or.inr (Or.inr (Or.inl r2)))) hT.tail.tail) hl h1 h2 h3 h4
theorem sn_bald {pc : Nat} {ls : PLs} {st : List PV} {h : PM} {cf : PCf} {cc : ByteArray} (hexec : p.tables.exec = Jvm.exec) (hb : c.code = cc) (hK : va_K D vwCl (tys5 cA) s) (hRo : ROT X base s) (hd : decode cc pc = .ok (.baload, 1)) (hs : p_ald 1 7 0 pc ls st h = some (.inl cf))
    (K : GG p l e R s m args below meth c Q X D cA base nL c0 k0 cF kF cf) : GG p l e R s m args below meth c Q X D cA base nL c0 k0 cF kF (pc, ls, st, h) := by
  match st, hs with
  | .inl i :: .inr (.inr (some (kd, n, a))) :: st, hs =>
    unfold p_ald at hs
    cases hc : ((Nat.beq kd 1 || Nat.beq kd 7) && p_in i n) with
    | false => simp only [hc, cond_false] at hs; cases hs
    | true =>
      simp only [hc, cond_true] at hs
      cases nx_inj hs
      simp only [Bool.and_eq_true, Bool.or_eq_true] at hc
      obtain ⟨hk, hi⟩ := hc
      rw [p_in_iff] at hi
      intro ad lsR H locs hP hL hT hl h1 h2 h3 h4
      obtain ⟨r1, r2, r3, r4⟩ := hT.tail.head kd n a rfl
      have hci : cnI i := hT.head
      show W p l e R s m args below meth c H locs _ _ Q (F0 m pc lsR (.int (p_I i) :: tv ad (vR (some (kd, n, a))) :: st.map (tv ad)))
      rcases hk with hk | hk
      · have hk := beq_t hk
        subst hk
        have ha31 : 31 ≤ a := r4.mpr (by omega)
        have hg := wd_get (cA := cA) (ad := ad) ha31 r1
        rw [cel_b r2, r3] at hg
        rw [tv_ref (by omega)]
        refine va_bald hexec hb hK hP.1 (a - 31) 1 hg rfl ((cn_in hci).mpr hi) hd ?_
        rw [cn_nat hci hi.1]
        exact K ad lsR H locs hP hL (okT.cons (okC_i hP.2.2.2.1 r1 (Or.inr (Or.inl r2))) hT.tail.tail) hl h1 h2 h3 h4
      · have hk := beq_t hk
        subst hk
        have ha31 : a < 31 := by
          rcases Nat.lt_or_ge a 31 with z | z
          · exact z
          · exact absurd ⟨by omega, by omega⟩ (r4.mp z)
        obtain ⟨e1, e2, e3, e4⟩ := hP.2.2.2.2 a ha31
        have hsh : (X.2.2.2 a).1 = 7 := by rw [← e4.1]; exact r2
        have hln : (X.2.2.2 a).2 = n := by rw [← e4.1]; exact r3
        have hT0 := (hRo a ha31).2 hsh
        rw [hln] at hT0
        rw [tv_ref (by omega), e1]
        refine va_tb hexec hb hT0 hP.2.2.1 ((cn_in hci).mpr hi) rfl hd ?_
        rw [cn_nat hci hi.1, ← e2]
        exact K ad lsR H locs hP hL (okT.cons (okC_i hP.2.2.2.1 r1 (Or.inr (Or.inr (Or.inr r2)))) hT.tail.tail) hl h1 h2 h3 h4
theorem sn_lald {pc : Nat} {ls : PLs} {st : List PV} {h : PM} {cf : PCf} {cc : ByteArray} (hexec : p.tables.exec = Jvm.exec) (hb : c.code = cc) (hK : va_K D vwCl (tys5 cA) s) (hd : decode cc pc = .ok (.laload, 1)) (hs : p_ald 2 2 2 pc ls st h = some (.inl cf))
    (K : GG p l e R s m args below meth c Q X D cA base nL c0 k0 cF kF cf) : GG p l e R s m args below meth c Q X D cA base nL c0 k0 cF kF (pc, ls, st, h) := by
  match st, hs with
  | .inl i :: .inr (.inr (some (kd, n, a))) :: st, hs =>
    unfold p_ald at hs
    cases hc : ((Nat.beq kd 2 || Nat.beq kd 2) && p_in i n) with
    | false => simp only [hc, cond_false] at hs; cases hs
    | true =>
      simp only [hc, cond_true] at hs
      cases nx_inj hs
      simp only [Bool.and_eq_true, Bool.or_eq_true, or_self] at hc
      obtain ⟨hk, hi⟩ := hc
      rw [p_in_iff] at hi
      intro ad lsR H locs hP hL hT hl h1 h2 h3 h4
      obtain ⟨r1, r2, r3, r4⟩ := hT.tail.head kd n a rfl
      have hci : cnI i := hT.head
      show W p l e R s m args below meth c H locs _ _ Q (F0 m pc lsR (.int (p_I i) :: tv ad (vR (some (kd, n, a))) :: st.map (tv ad)))
      have hk := beq_t hk
      subst hk
      have ha31 : 31 ≤ a := r4.mpr (by omega)
      have hg := wd_get (cA := cA) (ad := ad) ha31 r1
      rw [cel_l r2, r3] at hg
      rw [tv_ref (by omega)]
      refine va_lald hexec hb hK hP.1 (a - 31) 2 hg rfl ((cn_in hci).mpr hi) hd ?_
      rw [cn_nat hci hi.1]
      exact K ad lsR H locs hP hL (okT.cons (okC_l hP.2.2.2.1 r1 r2) hT.tail.tail) hl h1 h2 h3 h4
theorem sn_aald {pc : Nat} {ls : PLs} {st : List PV} {h : PM} {cf : PCf} {cc : ByteArray} (hexec : p.tables.exec = Jvm.exec) (hb : c.code = cc) (hK : va_K D vwCl (tys5 cA) s) (hd : decode cc pc = .ok (.aaload, 1)) (hs : p_ald 3 4 3 pc ls st h = some (.inl cf))
    (K : GG p l e R s m args below meth c Q X D cA base nL c0 k0 cF kF cf) : GG p l e R s m args below meth c Q X D cA base nL c0 k0 cF kF (pc, ls, st, h) := by
  match st, hs with
  | .inl i :: .inr (.inr (some (kd, n, a))) :: st, hs =>
    unfold p_ald at hs
    cases hc : ((Nat.beq kd 3 || Nat.beq kd 4) && p_in i n) with
    | false => simp only [hc, cond_false] at hs; cases hs
    | true =>
      simp only [hc, cond_true] at hs
      cases nx_inj hs
      simp only [Bool.and_eq_true, Bool.or_eq_true] at hc
      obtain ⟨hk, hi⟩ := hc
      rw [p_in_iff] at hi
      intro ad lsR H locs hP hL hT hl h1 h2 h3 h4
      obtain ⟨r1, r2, r3, r4⟩ := hT.tail.head kd n a rfl
      have hci : cnI i := hT.head
      show W p l e R s m args below meth c H locs _ _ Q (F0 m pc lsR (.int (p_I i) :: tv ad (vR (some (kd, n, a))) :: st.map (tv ad)))
      rcases hk with hk | hk
      · have hk := beq_t hk
        subst hk
        have ha31 : 31 ≤ a := r4.mpr (by omega)
        have hg := wd_get (cA := cA) (ad := ad) ha31 r1
        rw [cel_p r2, r3] at hg
        rw [tv_ref (by omega)]
        refine va_aldq hexec hb hK hP.1 (a - 31) 3 hg rfl ((cn_in hci).mpr hi) hd ?_
        rw [cn_nat hci hi.1]
        show W p l e R s m args below meth c H locs _ _ Q (F0 m (pc + 1) lsR (va_rf (rfa ad (h.2.1 a i.toNat)) :: st.map (tv ad)))
        rw [rfa_tv]
        exact K ad lsR H locs hP hL (okT.cons (okC_r hP.2.2.2.1 r1 (Or.inl r2)) hT.tail.tail) hl h1 h2 h3 h4
      · have hk := beq_t hk
        subst hk
        have ha31 : 31 ≤ a := r4.mpr (by omega)
        have hg := wd_get (cA := cA) (ad := ad) ha31 r1
        rw [cel_r r2, r3] at hg
        rw [tv_ref (by omega)]
        refine va_aldq hexec hb hK hP.1 (a - 31) 4 hg rfl ((cn_in hci).mpr hi) hd ?_
        rw [cn_nat hci hi.1]
        show W p l e R s m args below meth c H locs _ _ Q (F0 m (pc + 1) lsR (va_rf (rfa ad (h.2.1 a i.toNat)) :: st.map (tv ad)))
        rw [rfa_tv]
        exact K ad lsR H locs hP hL (okT.cons (okC_r hP.2.2.2.1 r1 (Or.inr r2)) hT.tail.tail) hl h1 h2 h3 h4
theorem sn_alen {pc : Nat} {ls : PLs} {st : List PV} {h : PM} {cf : PCf} {cc : ByteArray} (hexec : p.tables.exec = Jvm.exec) (hb : c.code = cc) (hK : va_K D vwCl (tys5 cA) s) (hRo : ROT X base s) (hd : decode cc pc = .ok (.arraylength, 1)) (hs : p_alen pc ls st h = some (.inl cf))
    (K : GG p l e R s m args below meth c Q X D cA base nL c0 k0 cF kF cf) : GG p l e R s m args below meth c Q X D cA base nL c0 k0 cF kF (pc, ls, st, h) := by
  match st, hs with
  | .inr (.inr (some (kd, n, a))) :: st, hs =>
    unfold p_alen at hs
    cases hc : ((Nat.ble kd 5 || Nat.beq kd 7) && decide (n ≤ 100000)) with
    | false => simp only [hc, cond_false] at hs; cases hs
    | true =>
      simp only [hc, cond_true] at hs
      cases nx_inj hs
      simp only [Bool.and_eq_true, Bool.or_eq_true, decide_eq_true_eq] at hc
      obtain ⟨hk, hn⟩ := hc
      intro ad lsR H locs hP hL hT hl h1 h2 h3 h4
      obtain ⟨r1, r2, r3, r4⟩ := hT.head kd n a rfl
      have hcn : cnI (n : Int) := cn_small hn
      have hv : Int32.ofNat n = p_I (n : Int) := by
        unfold p_I
        rw [Int32.ofInt_eq_ofNat]
      have hkd : kd ≠ 8 := by
        rcases hk with hk | hk
        · have := Nat.le_of_ble_eq_true hk; omega
        · have := beq_t hk; omega
      have K' := K ad lsR H locs hP hL (okT.cons hcn hT.tail) hl h1 h2 h3 h4
      show W p l e R s m args below meth c H locs _ _ Q (F0 m pc lsR (tv ad (vR (some (kd, n, a))) :: st.map (tv ad)))
      rw [tv_ref hkd]
      have hro : ∀ ty, va_T ty (X.1 a) (X.2.2.2 a).2 (fun j => .int (p_I (X.2.1 a j))) (AB base) s s.heap → a < 31 → W p l e R s m args below meth c H locs (m_ce h - c0) (m_sl h - k0) Q (F0 m pc lsR (.ref (ad a) :: st.map (tv ad))) := by
        intro ty hT0 ha31
        obtain ⟨e1, e2, e3, e4⟩ := hP.2.2.2.2 a ha31
        have hln : (X.2.2.2 a).2 = n := by rw [← e4.1]; exact r3
        rw [hln] at hT0
        rw [e1]
        exact va_tlen hexec hb hT0 hP.2.2.1 hv hd K'
      have hlow : (5 ≤ kd ∧ kd ≤ 8) → a < 31 := by
        intro z
        rcases Nat.lt_or_ge a 31 with y | y
        · exact y
        · exact absurd z (r4.mp y)
      by_cases k5 : kd = 5
      · subst k5
        have ha := hlow (by omega)
        exact hro .int ((hRo a ha).1 (by rw [← (hP.2.2.2.2 a ha).2.2.2.1]; exact r2)) ha
      · by_cases k7 : kd = 7
        · subst k7
          have ha := hlow (by omega)
          exact hro .byte ((hRo a ha).2 (by rw [← (hP.2.2.2.2 a ha).2.2.2.1]; exact r2)) ha
        · have hk4 : kd ≤ 4 := by
            rcases hk with hk | hk
            · have := Nat.le_of_ble_eq_true hk; omega
            · exact absurd (beq_t hk) k7
          have ha31 : 31 ≤ a := r4.mpr (by omega)
          have hg := wd_get (cA := cA) (ad := ad) ha31 r1
          rcases (show kd = 0 ∨ kd = 1 ∨ kd = 2 ∨ kd = 3 ∨ kd = 4 by omega) with z | z | z | z | z
          · subst z
            rw [cel_i r2, r3] at hg
            exact va_alen hexec hb hK hP.1 (a - 31) 0 hg (ty := .int) rfl hv hd K'
          · subst z
            rw [cel_b r2, r3] at hg
            exact va_alen hexec hb hK hP.1 (a - 31) 1 hg (ty := .byte) rfl hv hd K'
          · subst z
            rw [cel_l r2, r3] at hg
            exact va_alen hexec hb hK hP.1 (a - 31) 2 hg (ty := .long) rfl hv hd K'
          · subst z
            rw [cel_p r2, r3] at hg
            exact va_alen hexec hb hK hP.1 (a - 31) 3 hg (ty := .object "MapPieces$Piece") rfl hv hd K'
          · subst z
            rw [cel_r r2, r3] at hg
            exact va_alen hexec hb hK hP.1 (a - 31) 4 hg (ty := .object "MapPieces$Ring") rfl hv hd K'
end Steps
end
