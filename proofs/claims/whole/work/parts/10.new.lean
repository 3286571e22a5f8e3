/-! ===== array stores, copies, what is made ===== -/
noncomputable section
section Steps
variable {p : Program} {l : Launch} {e : Env} {R : Room} {s : State} {m : MethodId} {args : Array Value} {below : List Frame} {meth : Method} {c : Code} {Q : State → Prop}
variable {X : RX} {D : va_G} {cA : Nat → ClassId} {base nL c0 k0 cF kF : Nat}
theorem PI_si {ad : Nat → Nat} {h : PM} {H H1 : Heap} {locs locs1 : List Loc} {a k : Nat} {x : Int} {E : va_E} (hP : PI X D cA base ad h s H locs) (ha : 31 ≤ a) (hlt : a < m_sz h) (hx : (ctg (m_kd h a) k = 2 ∧ cnL x) ∨ (ctg (m_kd h a) k ≠ 2 ∧ ctg (m_kd h a) k ≠ 3 ∧ cnI x)) (hE : cel cA ad (m_si h a k x) a = E)
    (g1 : va_P D vwCl ((wd cA ad h).set (a - 31) (ad a, E)) H1) (g2 : va_D (AB base) ((wd cA ad h).set (a - 31) (ad a, E))) (g3 : va_S (AB base) s.heap H1 locs1) : PI X D cA base ad (m_si h a k x) s H1 locs1 := by
  have hw : wd cA ad (m_si h a k x) = (wd cA ad h).set (a - 31) (ad a, E) := by
    rw [wd_set (h := h) (h' := m_si h a k x) (i := a) ha hlt rfl (fun j hj => cel_same (up2_ne hj) rfl rfl), hE]
  exact ⟨by rw [hw]; exact g1, by rw [hw]; exact g2, g3, hP.2.2.2.1.si hlt hx, hP.2.2.2.2.si ha⟩
theorem PI_sr {ad : Nat → Nat} {h : PM} {H H1 : Heap} {locs locs1 : List Loc} {a k : Nat} {r : Rf} {E : va_E} (hP : PI X D cA base ad h s H locs) (ha : 31 ≤ a) (hlt : a < m_sz h) (hr : okR h r) (hE : cel cA ad (m_sr h a k r) a = E)
    (g1 : va_P D vwCl ((wd cA ad h).set (a - 31) (ad a, E)) H1) (g2 : va_D (AB base) ((wd cA ad h).set (a - 31) (ad a, E))) (g3 : va_S (AB base) s.heap H1 locs1) : PI X D cA base ad (m_sr h a k r) s H1 locs1 := by
  have hw : wd cA ad (m_sr h a k r) = (wd cA ad h).set (a - 31) (ad a, E) := by
    rw [wd_set (h := h) (h' := m_sr h a k r) (i := a) ha hlt rfl (fun j hj => cel_same rfl (up2_ne hj) rfl), hE]
  exact ⟨by rw [hw]; exact g1, by rw [hw]; exact g2, g3, hP.2.2.2.1.sr hr, hP.2.2.2.2.sr ha⟩
theorem upd_si {h : PM} {a k : Nat} {x : Int} : (fun j => p_I ((m_si h a k x).1 a j)) = upd (fun j => p_I (h.1 a j)) k (p_I x) := by
  funext j
  unfold upd
  show p_I (up2 h.1 a k x a j) = _
  by_cases hj : j = k
  · subst hj; rw [up2_eq, if_pos rfl]
  · rw [up2_nek hj, if_neg hj]
theorem updL_si {h : PM} {a k : Nat} {x : Int} : (fun j => p_L ((m_si h a k x).1 a j)) = vp_updL (fun j => p_L (h.1 a j)) k (p_L x) := by
  funext j
  unfold vp_updL
  show p_L (up2 h.1 a k x a j) = _
  by_cases hj : j = k
  · subst hj; rw [up2_eq, if_pos rfl]
  · rw [up2_nek hj, if_neg hj]
theorem updR_sr {ad : Nat → Nat} {h : PM} {a k : Nat} {r : Rf} : ra ad (m_sr h a k r) a = va_up (ra ad h a) k (rfa ad r) := by
  funext j
  unfold va_up
  show rfa ad (up2 h.2.1 a k r a j) = _
  by_cases hj : j = k
  · subst hj; rw [up2_eq, if_pos rfl]
  · rw [up2_nek hj, if_neg hj]; rfl
theorem sn_iast {pc : Nat} {ls : PLs} {st : List PV} {h : PM} {cf : PCf} {cc : ByteArray} (hexec : p.tables.exec = Jvm.exec) (hb : c.code = cc) (hK : va_K D vwCl (tys5 cA) s) (hd : decode cc pc = .ok (.iastore, 1)) (hs : p_iast pc ls st h = some (.inl cf))
    (K : GG p l e R s m args below meth c Q X D cA base nL c0 k0 cF kF cf) : GG p l e R s m args below meth c Q X D cA base nL c0 k0 cF kF (pc, ls, st, h) := by
  match st, hs with
  | .inl x :: .inl i :: .inr (.inr (some (kd, n, a))) :: st, hs =>
    unfold p_iast at hs
    cases hc : (Nat.beq kd 0 && p_in i n) with
    | false => simp only [hc, cond_false] at hs; cases hs
    | true =>
      simp only [hc, cond_true] at hs
      cases nx_inj hs
      simp only [Bool.and_eq_true] at hc
      obtain ⟨hk, hi⟩ := hc
      rw [p_in_iff] at hi
      have hk := beq_t hk
      subst hk
      intro ad lsR H locs hP hL hT hl h1 h2 h3 h4
      obtain ⟨r1, r2, r3, r4⟩ := hT.tail.tail.head 0 n a rfl
      have hci : cnI i := hT.tail.head
      have hcx : cnI x := hT.head
      have ha31 : 31 ≤ a := r4.mpr (by omega)
      have hg := wd_get (cA := cA) (ad := ad) ha31 r1
      rw [cel_i r2, r3] at hg
      show W p l e R s m args below meth c H locs _ _ Q (F0 m pc lsR (.int (p_I x) :: .int (p_I i) :: tv ad (vR (some (0, n, a))) :: st.map (tv ad)))
      rw [tv_ref (by omega)]
      refine va_iast hexec hb hK hP.1 hP.2.1 hP.2.2.1 (a - 31) 0 hg rfl ((cn_in hci).mpr hi) hd (fun H1 locs1 g1 g2 g3 => ?_)
      rw [cn_nat hci hi.1] at g1 g2
      have hE : cel cA ad (m_si h a i.toNat x) a = .inl (cA 0, n, .inl (upd (fun j => p_I (h.1 a j)) i.toNat (p_I x))) := by
        rw [cel_i (h := m_si h a i.toNat x) r2, upd_si]
        show Sum.inl (cA 0, m_ln h a, _) = _
        rw [r3]
      have hc2 := ctg_i (kd := m_kd h a) (j := i.toNat) (Or.inl r2)
      exact K ad lsR H1 locs1 (PI_si hP ha31 r1 (Or.inr ⟨hc2.1, hc2.2, hcx⟩) hE g1 g2 g3) hL (fun w hw => (hT.tail.tail.tail w hw).si) (fun w hw => (hl w hw).si) h1 h2 h3 h4
theorem sn_bast {pc : Nat} {ls : PLs} {st : List PV} {h : PM} {cf : PCf} {cc : ByteArray} (hexec : p.tables.exec = Jvm.exec) (hb : c.code = cc) (hK : va_K D vwCl (tys5 cA) s) (hd : decode cc pc = .ok (.bastore, 1)) (hs : p_bast pc ls st h = some (.inl cf))
    (K : GG p l e R s m args below meth c Q X D cA base nL c0 k0 cF kF cf) : GG p l e R s m args below meth c Q X D cA base nL c0 k0 cF kF (pc, ls, st, h) := by
  match st, hs with
  | .inl x :: .inl i :: .inr (.inr (some (kd, n, a))) :: st, hs =>
    unfold p_bast at hs
    cases hc : (Nat.beq kd 1 && p_in i n) with
    | false => simp only [hc, cond_false] at hs; cases hs
    | true =>
      simp only [hc, cond_true] at hs
      cases nx_inj hs
      simp only [Bool.and_eq_true] at hc
      obtain ⟨hk, hi⟩ := hc
      rw [p_in_iff] at hi
      have hk := beq_t hk
      subst hk
      intro ad lsR H locs hP hL hT hl h1 h2 h3 h4
      obtain ⟨r1, r2, r3, r4⟩ := hT.tail.tail.head 1 n a rfl
      have hci : cnI i := hT.tail.head
      have ha31 : 31 ≤ a := r4.mpr (by omega)
      have hg := wd_get (cA := cA) (ad := ad) ha31 r1
      rw [cel_b r2, r3] at hg
      show W p l e R s m args below meth c H locs _ _ Q (F0 m pc lsR (.int (p_I x) :: .int (p_I i) :: tv ad (vR (some (1, n, a))) :: st.map (tv ad)))
      rw [tv_ref (by omega)]
      refine va_bast hexec hb hK hP.1 hP.2.1 hP.2.2.1 (a - 31) 1 hg rfl ((cn_in hci).mpr hi) hd (fun H1 locs1 g1 g2 g3 => ?_)
      have hnar : vp_nar .byte (p_I x) = p_I (p_i2b x) := by
        rw [vp_nar_byte]
        unfold p_i2b
        rw [p_I_toInt]
      rw [cn_nat hci hi.1, hnar] at g1 g2
      have hE : cel cA ad (m_si h a i.toNat (p_i2b x)) a = .inl (cA 1, n, .inl (upd (fun j => p_I (h.1 a j)) i.toNat (p_I (p_i2b x)))) := by
        rw [cel_b (h := m_si h a i.toNat (p_i2b x)) r2, upd_si]
        show Sum.inl (cA 1, m_ln h a, _) = _
        rw [r3]
      have hc2 := ctg_i (kd := m_kd h a) (j := i.toNat) (Or.inr (Or.inl r2))
      exact K ad lsR H1 locs1 (PI_si hP ha31 r1 (Or.inr ⟨hc2.1, hc2.2, cnI_toInt _⟩) hE g1 g2 g3) hL (fun w hw => (hT.tail.tail.tail w hw).si) (fun w hw => (hl w hw).si) h1 h2 h3 h4
theorem sn_last {pc : Nat} {ls : PLs} {st : List PV} {h : PM} {cf : PCf} {cc : ByteArray} (hexec : p.tables.exec = Jvm.exec) (hb : c.code = cc) (hK : va_K D vwCl (tys5 cA) s) (hd : decode cc pc = .ok (.lastore, 1)) (hs : p_last pc ls st h = some (.inl cf))
    (K : GG p l e R s m args below meth c Q X D cA base nL c0 k0 cF kF cf) : GG p l e R s m args below meth c Q X D cA base nL c0 k0 cF kF (pc, ls, st, h) := by
  match st, hs with
  | .inr (.inl x) :: .inl i :: .inr (.inr (some (kd, n, a))) :: st, hs =>
    unfold p_last at hs
    cases hc : (Nat.beq kd 2 && p_in i n) with
    | false => simp only [hc, cond_false] at hs; cases hs
    | true =>
      simp only [hc, cond_true] at hs
      cases nx_inj hs
      simp only [Bool.and_eq_true] at hc
      obtain ⟨hk, hi⟩ := hc
      rw [p_in_iff] at hi
      have hk := beq_t hk
      subst hk
      intro ad lsR H locs hP hL hT hl h1 h2 h3 h4
      obtain ⟨r1, r2, r3, r4⟩ := hT.tail.tail.head 2 n a rfl
      have hci : cnI i := hT.tail.head
      have hcx : cnL x := hT.head
      have ha31 : 31 ≤ a := r4.mpr (by omega)
      have hg := wd_get (cA := cA) (ad := ad) ha31 r1
      rw [cel_l r2, r3] at hg
      show W p l e R s m args below meth c H locs _ _ Q (F0 m pc lsR (.long (p_L x) :: .int (p_I i) :: tv ad (vR (some (2, n, a))) :: st.map (tv ad)))
      rw [tv_ref (by omega)]
      refine va_last hexec hb hK hP.1 hP.2.1 hP.2.2.1 (a - 31) 2 hg rfl ((cn_in hci).mpr hi) hd (fun H1 locs1 g1 g2 g3 => ?_)
      rw [cn_nat hci hi.1] at g1 g2
      have hE : cel cA ad (m_si h a i.toNat x) a = .inl (cA 2, n, .inr (.inl (vp_updL (fun j => p_L (h.1 a j)) i.toNat (p_L x)))) := by
        rw [cel_l (h := m_si h a i.toNat x) r2, updL_si]
        show Sum.inl (cA 2, m_ln h a, _) = _
        rw [r3]
      have hc2 : ctg (m_kd h a) i.toNat = 2 := by unfold ctg; rw [if_pos r2]
      exact K ad lsR H1 locs1 (PI_si hP ha31 r1 (Or.inl ⟨hc2, hcx⟩) hE g1 g2 g3) hL (fun w hw => (hT.tail.tail.tail w hw).si) (fun w hw => (hl w hw).si) h1 h2 h3 h4
theorem sn_aast {pc : Nat} {ls : PLs} {st : List PV} {h : PM} {cf : PCf} {cc : ByteArray} (hexec : p.tables.exec = Jvm.exec) (hb : c.code = cc) (hK : va_K D vwCl (tys5 cA) s) (hd : decode cc pc = .ok (.aastore, 1)) (hs : p_aast pc ls st h = some (.inl cf))
    (K : GG p l e R s m args below meth c Q X D cA base nL c0 k0 cF kF cf) : GG p l e R s m args below meth c Q X D cA base nL c0 k0 cF kF (pc, ls, st, h) := by
  match st, hs with
  | .inr (.inr (some (k2, n2, b))) :: .inl i :: .inr (.inr (some (kd, n, a))) :: st, hs =>
    unfold p_aast at hs
    cases hc : (((Nat.beq kd 3 && Nat.beq k2 14) || (Nat.beq kd 4 && Nat.beq k2 16)) && p_in i n) with
    | false => simp only [hc, cond_false] at hs; cases hs
    | true =>
      simp only [hc, cond_true] at hs
      cases nx_inj hs
      simp only [Bool.and_eq_true, Bool.or_eq_true] at hc
      obtain ⟨hk, hi⟩ := hc
      rw [p_in_iff] at hi
      intro ad lsR H locs hP hL hT hl h1 h2 h3 h4
      obtain ⟨r1, r2, r3, r4⟩ := hT.tail.tail.head kd n a rfl
      obtain ⟨b1, b2, b3, b4⟩ := hT.head k2 n2 b rfl
      have hci : cnI i := hT.tail.head
      show W p l e R s m args below meth c H locs _ _ Q (F0 m pc lsR (tv ad (vR (some (k2, n2, b))) :: .int (p_I i) :: tv ad (vR (some (kd, n, a))) :: st.map (tv ad)))
      rcases hk with ⟨hk, hk2⟩ | ⟨hk, hk2⟩
      · have hk := beq_t hk
        have hk2 := beq_t hk2
        subst hk; subst hk2
        have ha31 : 31 ≤ a := r4.mpr (by omega)
        have hb31 : 31 ≤ b := b4.mpr (by omega)
        have hg := wd_get (cA := cA) (ad := ad) ha31 r1
        rw [cel_p r2, r3] at hg
        have hg2 := wd_get (cA := cA) (ad := ad) hb31 b1
        rw [cel_obj (ci := 4) b2] at hg2
        rw [tv_ref (by omega), tv_ref (by omega)]
        refine va_astq hexec hb hK hP.1 hP.2.1 hP.2.2.1 (a - 31) 3 (b - 31) 4 (r := (RX3, TX3, 15)) hg rfl hg2 rfl ((cn_in hci).mpr hi) hd (fun H1 locs1 g1 g2 g3 => ?_)
        rw [cn_nat hci hi.1] at g1 g2
        have hE : cel cA ad (m_sr h a i.toNat (some (14, n2, b))) a = .inl (cA 3, n, .inr (.inr (.inr (.inr (va_up (ra ad h a) i.toNat (some (ad b))))))) := by
          rw [cel_p (h := m_sr h a i.toNat (some (14, n2, b))) r2, updR_sr, rfa_ref (by omega)]
          show Sum.inl (cA 3, m_ln h a, _) = _
          rw [r3]
        exact K ad lsR H1 locs1 (PI_sr hP ha31 r1 hT.head hE g1 g2 g3) hL (fun w hw => (hT.tail.tail.tail w hw).sr) (fun w hw => (hl w hw).sr) h1 h2 h3 h4
      · have hk := beq_t hk
        have hk2 := beq_t hk2
        subst hk; subst hk2
        have ha31 : 31 ≤ a := r4.mpr (by omega)
        have hb31 : 31 ≤ b := b4.mpr (by omega)
        have hg := wd_get (cA := cA) (ad := ad) ha31 r1
        rw [cel_r r2, r3] at hg
        have hg2 := wd_get (cA := cA) (ad := ad) hb31 b1
        rw [cel_obj (ci := 6) b2] at hg2
        rw [tv_ref (by omega), tv_ref (by omega)]
        refine va_astq hexec hb hK hP.1 hP.2.1 hP.2.2.1 (a - 31) 4 (b - 31) 6 (r := (RX6, TX6, 6)) hg rfl hg2 rfl ((cn_in hci).mpr hi) hd (fun H1 locs1 g1 g2 g3 => ?_)
        rw [cn_nat hci hi.1] at g1 g2
        have hE : cel cA ad (m_sr h a i.toNat (some (16, n2, b))) a = .inl (cA 4, n, .inr (.inr (.inr (.inr (va_up (ra ad h a) i.toNat (some (ad b))))))) := by
          rw [cel_r (h := m_sr h a i.toNat (some (16, n2, b))) r2, updR_sr, rfa_ref (by omega)]
          show Sum.inl (cA 4, m_ln h a, _) = _
          rw [r3]
        exact K ad lsR H1 locs1 (PI_sr hP ha31 r1 hT.head hE g1 g2 g3) hL (fun w hw => (hT.tail.tail.tail w hw).sr) (fun w hw => (hl w hw).sr) h1 h2 h3 h4
/-- how a value's category is counted -/
theorem p_room_sum {ad : Nat → Nat} {st : List PV} (h : p_room st = true) : ((st.map (tv ad)).map fun v => v.category).sum ≤ 8 := by
  have h := Nat.le_of_ble_eq_true h
  have e : ∀ st : List PV, ((st.map (tv ad)).map fun v => v.category).sum = (st.map p_cat).foldr (· + ·) 0 := by
    intro st
    induction st with
    | nil => rfl
    | cons v t ih =>
      show ((tv ad v).category :: ((t.map (tv ad)).map fun v => v.category)).sum = p_cat v + (t.map p_cat).foldr (· + ·) 0
      rw [List.sum_cons, ih, tv_cat]
  rw [e]
  exact h
theorem m_cpy_other {h : PM} {a sp b dp n j : Nat} (hj : j ≠ b) : (m_cpy h a sp b dp n).1 j = h.1 j := up1_ne hj
theorem sn_mm {pc : Nat} {ls : PLs} {st : List PV} {h : PM} {cf : PCf} {f : Int → Int → Int} {op : Int32 → Int32 → Int32} (hs : p_mm f pc ls st h = some (.inl cf)) (hf : ∀ x y, f x y = (op (p_I x) (p_I y)).toInt)
    (row : ∀ (x y : Int32) (ad : Nat → Nat) (st' : List PV) (lsR : Array Slot) (H : Heap) (locs : List Loc) (cells slots : Nat), lsR.size = nL → p_room st' = true → cells ≤ cF - c0 → slots ≤ kF - k0 → W p l e R s m args below meth c H locs cells slots Q (F0 m (pc + 3) lsR (.int (op x y) :: st'.map (tv ad))) → W p l e R s m args below meth c H locs cells slots Q (F0 m pc lsR (.int y :: .int x :: st'.map (tv ad))))
    (K : GG p l e R s m args below meth c Q X D cA base nL c0 k0 cF kF cf) : GG p l e R s m args below meth c Q X D cA base nL c0 k0 cF kF (pc, ls, st, h) := by
  match st, hs with
  | .inl y :: .inl x :: st, hs =>
    unfold p_mm at hs
    cases hc : p_room st with
    | false => simp only [hc, cond_false] at hs; cases hs
    | true =>
      simp only [hc, cond_true] at hs
      cases nx_inj hs
      intro ad lsR H locs hP hL hT hl h1 h2 h3 h4
      refine row (p_I x) (p_I y) ad st _ _ _ _ _ hL.1 hc (Nat.sub_le_sub_right h3 c0) (Nat.sub_le_sub_right h4 k0) ?_
      have := K ad lsR H locs hP hL (okT.cons (by show cnI (f x y); rw [hf]; exact cnI_toInt _) hT.tail.tail) hl h1 h2 h3 h4
      rw [← p_I_toInt (op (p_I x) (p_I y)), ← hf]
      exact this
theorem sn_copy {pc ix : Nat} {ls : PLs} {st : List PV} {h : PM} {cf : PCf} {cc : ByteArray} {own : String} (hexec : p.tables.exec = Jvm.exec) (hb : c.code = cc) (hml : c.maxLocals = nL) (hown : s.vm.findClass own = some m.cls) (hlink : (Cond.methodLink own ix arraycopyName).before args s = true) (hnat : (Cond.native arraycopyName).before args s = true) (hstat : (Cond.static arraycopyName).before args s = true) (hini : (Cond.initialized "java/lang/System").before args s = true)
    (hK : va_K D vwCl (tys5 cA) s) (hRf : 1 ≤ R.frames) (hRl : 200 ≤ R.locals) (hd : decode cc pc = .ok (.invokestatic ix, 3)) (hs : p_copy pc ls st h = some (.inl cf))
    (K : GG p l e R s m args below meth c Q X D cA base nL c0 k0 cF kF cf) : GG p l e R s m args below meth c Q X D cA base nL c0 k0 cF kF (pc, ls, st, h) := by
  match st, hs with
  | .inl n :: .inl dp :: .inr (.inr (some (k1, n1, b))) :: .inl sp :: .inr (.inr (some (kd, n0, a))) :: st, hs =>
    unfold p_copy at hs
    cases hc : (Nat.beq kd 0 && Nat.beq k1 0 && decide (0 ≤ sp) && decide (0 ≤ dp) && decide (0 ≤ n) && decide (sp + n ≤ n0) && decide (dp + n ≤ n1) && p_room st) with
    | false => simp only [hc, cond_false] at hs; cases hs
    | true =>
      simp only [hc, cond_true] at hs
      cases nx_inj hs
      simp only [Bool.and_eq_true, decide_eq_true_eq] at hc
      obtain ⟨⟨⟨⟨⟨⟨⟨hk, hk1⟩, hsp⟩, hdp⟩, hn⟩, hsn⟩, hdn⟩, hroom⟩ := hc
      have hk := beq_t hk
      have hk1 := beq_t hk1
      subst hk; subst hk1
      intro ad lsR H locs hP hL hT hl h1 h2 h3 h4
      have cn : cnI n := hT.head
      have cdp : cnI dp := hT.tail.head
      obtain ⟨b1, b2, b3, b4⟩ := hT.tail.tail.head 0 n1 b rfl
      have csp : cnI sp := hT.tail.tail.tail.head
      obtain ⟨r1, r2, r3, r4⟩ := hT.tail.tail.tail.tail.head 0 n0 a rfl
      have ha31 : 31 ≤ a := r4.mpr (by omega)
      have hb31 : 31 ≤ b := b4.mpr (by omega)
      have hg := wd_get (cA := cA) (ad := ad) ha31 r1
      rw [cel_i r2, r3] at hg
      have hg2 := wd_get (cA := cA) (ad := ad) hb31 b1
      rw [cel_i b2, b3] at hg2
      show W p l e R s m args below meth c H locs _ _ Q (F0 m pc lsR (.int (p_I n) :: .int (p_I dp) :: tv ad (vR (some (0, n1, b))) :: .int (p_I sp) :: tv ad (vR (some (0, n0, a))) :: st.map (tv ad)))
      rw [tv_ref (by omega), tv_ref (by omega)]
      have q1 : ¬ p_I sp < 0 := fun z => absurd ((cn_lt csp cn_0).mp z) (by omega)
      have q2 : ¬ p_I dp < 0 := fun z => absurd ((cn_lt cdp cn_0).mp z) (by omega)
      have q3 : ¬ p_I n < 0 := fun z => absurd ((cn_lt cn cn_0).mp z) (by omega)
      have w : nativeFrameWords "java/lang/System" "arraycopy" 5 ≤ 100 := by decide +kernel
      refine va_copyi hexec hb (by rw [hml]; exact hL.1.symm) hown hlink hnat hstat hini hK hP.1 hP.2.1 hP.2.2.1 (a - 31) (b - 31) 0 0 (ty := .int) hg hg2 rfl rfl rfl q1 q2 q3 (by rw [cn_nat csp hsp, cn_nat cn hn]; omega) (by rw [cn_nat cdp hdp, cn_nat cn hn]; omega) (fun _ _ => rfl) hRf (by have := p_room_sum (ad := ad) hroom; omega) hd (fun H1 locs1 g1 g2 g3 => ?_)
      rw [cn_nat csp hsp, cn_nat cn hn, cn_nat cdp hdp] at g1 g2
      have hE : cel cA ad (m_cpy h a sp.toNat b dp.toNat n.toNat) b = .inl (cA 0, n1, .inl (va_cpy (fun j => p_I (h.1 a j)) (fun j => p_I (h.1 b j)) sp.toNat dp.toNat n.toNat)) := by
        rw [cel_i (h := m_cpy h a sp.toNat b dp.toNat n.toNat) b2]
        show Sum.inl (cA 0, m_ln h b, Sum.inl (fun j => p_I (up1 h.1 b (fun k => if dp.toNat ≤ k ∧ k < dp.toNat + n.toNat then h.1 a (sp.toNat + (k - dp.toNat)) else h.1 b k) b j))) = _
        rw [b3, up1_eq]
        have : (fun j => p_I (if dp.toNat ≤ j ∧ j < dp.toNat + n.toNat then h.1 a (sp.toNat + (j - dp.toNat)) else h.1 b j)) = va_cpy (fun j => p_I (h.1 a j)) (fun j => p_I (h.1 b j)) sp.toNat dp.toNat n.toNat := by
          funext j
          unfold va_cpy
          by_cases hj : dp.toNat ≤ j ∧ j < dp.toNat + n.toNat
          · rw [if_pos hj, if_pos hj]
          · rw [if_neg hj, if_neg hj]
        rw [this]
      have hw : wd cA ad (m_cpy h a sp.toNat b dp.toNat n.toNat) = (wd cA ad h).set (b - 31) (ad b, .inl (cA 0, n1, .inl (va_cpy (fun j => p_I (h.1 a j)) (fun j => p_I (h.1 b j)) sp.toNat dp.toNat n.toNat))) := by
        rw [wd_set (h := h) (h' := m_cpy h a sp.toNat b dp.toNat n.toNat) (i := b) hb31 b1 rfl (fun j hj => cel_same (m_cpy_other hj) rfl rfl), hE]
      have hok : okH (m_cpy h a sp.toNat b dp.toNat n.toNat) := by
        refine ⟨hP.2.2.2.1.1, hP.2.2.2.1.2.1, fun i j hi => ?_⟩
        have h0 := hP.2.2.2.1.2.2 i j hi
        by_cases hib : i = b
        · subst hib
          unfold okC
          have hc2 := ctg_i (kd := m_kd h i) (j := j) (Or.inl b2)
          show if ctg (m_kd h i) j = 2 then _ else if ctg (m_kd h i) j = 3 then _ else cnI (up1 h.1 i (fun k => if dp.toNat ≤ k ∧ k < dp.toNat + n.toNat then h.1 a (sp.toNat + (k - dp.toNat)) else h.1 i k) i j)
          rw [if_neg hc2.1, if_neg hc2.2, up1_eq]
          by_cases hj : dp.toNat ≤ j ∧ j < dp.toNat + n.toNat
          · rw [if_pos hj]; exact okC_i hP.2.2.2.1 r1 (Or.inl r2)
          · rw [if_neg hj]; exact okC_i hP.2.2.2.1 b1 (Or.inl b2)
        · unfold okC at h0 ⊢
          rw [m_cpy_other hib]
          exact h0
      have hro : roS X (m_cpy h a sp.toNat b dp.toNat n.toNat) ad := by
        intro i hi
        obtain ⟨z1, z2, z3, z4⟩ := hP.2.2.2.2 i hi
        exact ⟨z1, (m_cpy_other (by omega)).trans z2, z3, z4⟩
      have hv : ∀ w : PV, okV h w → okV (m_cpy h a sp.toNat b dp.toNat n.toNat) w := by
        intro w hw
        rcases w with y | y | r
        · exact hw
        · exact hw
        · exact hw
      exact K ad lsR H1 locs1 ⟨by rw [hw]; exact g1, by rw [hw]; exact g2, g3, hok, hro⟩ hL (fun w hw => hv w (hT.tail.tail.tail.tail.tail w hw)) (fun w hw => hv w (hl w hw)) h1 h2 h3 h4
end Steps
end
