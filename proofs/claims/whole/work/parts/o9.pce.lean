/-! ===== a piece told, both sides ===== -/
noncomputable section
section
variable {d : Nat} {I J K X Y Z : Nat → Nat → Int} {S S' S1 : PS} {c T U n P R N A a2 p s r a : Nat} {dg b : Int}
theorem n96 (p k : Nat) : ((96 * (p : Int)) + (k : Int)).toNat = 96 * p + k := by omega
/-- words of a study, and the reference's rows -/
theorem stw (t2 : tbC J (T + 7 + 9 * p) p r) (hn : lnC r ≤ 91) (h9 : ∀ k : Nat, k < lnC r → 0 ≤ J 169 ((96 * (p : Int)) + (k : Int)).toNat ∧ J 169 ((96 * (p : Int)) + (k : Int)).toNat ≤ 1) (h0 : ∀ k : Nat, k < lnC r → 0 ≤ J 170 ((96 * (p : Int)) + (k : Int)).toNat ∧ J 170 ((96 * (p : Int)) + (k : Int)).toNat ≤ 1) : smI (fun k => bcn (J ((T + 7 + 9 * p) + 6) k) 32) 3 = smI (fun k => J 169 ((96 * (p : Int)) + (k : Int)).toNat) (lnC r) ∧ smI (fun k => bcn (J ((T + 7 + 9 * p) + 7) k) 32) 3 = smI (fun k => if J 171 ((96 * (p : Int)) + (k : Int)).toNat = (-1) then 1 else 0) (lnC r) ∧ smI (fun k => bcn (J ((T + 7 + 9 * p) + 8) k) 32) 3 = smI (fun k => J 170 ((96 * (p : Int)) + (k : Int)).toNat) (lnC r) ∧ J (T + 7 + 9 * p) 14 = mxI (fun k => J 171 ((96 * (p : Int)) + (k : Int)).toNat) (lnC r) ∧ allB (fun k => decide (p_and (J ((T + 7 + 9 * p) + 8) k) (J ((T + 7 + 9 * p) + 7) k) = 0)) 3 = allB (icP J (p : Int)) (lnC r) := by
  obtain ⟨u1, u2, u3, u4, u5, u6⟩ := t2
  refine ⟨?_, ?_, ?_, ?_, ?_⟩
  · rw [bc_wd u4 (by omega)]
    refine smI_cg (fun i hi => ?_)
    have := h9 i hi
    rw [n96] at this ⊢
    by_cases q : J 169 (96 * p + i) = 1
    · rw [decide_eq_true q, if_pos rfl, q]
    · rw [decide_eq_false q, if_neg (by decide)]; omega
  · rw [bc_wd u5 (by omega)]
    refine smI_cg (fun i hi => ?_)
    rw [n96]
    by_cases q : J 171 (96 * p + i) = -1
    · rw [decide_eq_true q, if_pos rfl, if_pos q]
    · rw [decide_eq_false q, if_neg (by decide), if_neg q]
  · rw [bc_wd u6 (by omega)]
    refine smI_cg (fun i hi => ?_)
    have := h0 i hi
    rw [n96] at this ⊢
    by_cases q : J 170 (96 * p + i) = 1
    · rw [decide_eq_true q, if_pos rfl, q]
    · rw [decide_eq_false q, if_neg (by decide)]; omega
  · rw [u3]
    exact mxI_cg (fun i _ => by rw [n96])
  · rw [and_wd u6 u5 (by omega)]
    refine allB_congr (fun i _ => ?_)
    unfold icP
    rw [n96]
    exact decide_eq_decide.mpr (not_congr (and_congr ⟨fun z => of_decide_eq_true z, fun z => decide_eq_true z⟩ ⟨fun z => of_decide_eq_true z, fun z => decide_eq_true z⟩))
theorem icC_M {cc : Nat} (t2 : tbC J (T + 7 + 9 * p) p r) (hn : lnC r ≤ 91) (h9 : ∀ k : Nat, k < lnC r → 0 ≤ J 169 ((96 * (p : Int)) + (k : Int)).toNat ∧ J 169 ((96 * (p : Int)) + (k : Int)).toNat ≤ 1) (h0 : ∀ k : Nat, k < lnC r → 0 ≤ J 170 ((96 * (p : Int)) + (k : Int)).toNat ∧ J 170 ((96 * (p : Int)) + (k : Int)).toNat ≤ 1) (h6 : J (T + 7 + 9 * p) 6 = (cc : Int)) (h10 : J 159 ((20 * (p : Int)) + 10).toNat = (cc : Int)) (hm : J 167 p = (lnC r : Int)) (e : ∀ b, b ≠ 156 → b ≠ 191 → Z b = J b) : icC J (T + 7 + 9 * p) = icM Z (p : Int) := by
  obtain ⟨q1, q2, q3, q4, q5⟩ := stw t2 hn h9 h0
  unfold icC icM icP
  rw [e 159 (by decide) (by decide), e 170 (by decide) (by decide), e 171 (by decide) (by decide), e 167 (by decide) (by decide), Int.toNat_natCast, hm, Int.toNat_natCast, h6, h10, q3, q5]
  rfl
theorem pu_piece {x1 x2 : Int} (h : IV c T U n P R N I S) : outC c mX11_piece mX12_piece ecI [vI x1, vI x2] I S := by
  obtain ⟨l1, l2, hT⟩ := IV_L h
  obtain ⟨⟨b1, b2, b3⟩, ⟨e1, e2, e3⟩, f1, f2, f3⟩ := fc_IV h
  have mm : ∀ (Y : Nat → Nat → Int) (S' : PS), IV (c + 1) T U n P R N Y S' → Ca 3 mX12_piece [vR (some (22, 0, 156)), vI x1, vI x2] (Y, S') _ _ := fun Y S' hY => by
    obtain ⟨_, ⟨m1, m2, m3⟩, g1, g2, g3⟩ := fm_IV hY
    have pM : 0 ≤ x1 → x1 < (P : Int) → (0 ≤ Y 159 ((20 * x1) + 9).toNat ∧ Y 159 ((20 * x1) + 9).toNat ≤ 7) ∧ (0 ≤ Y 159 ((20 * x1) + 1).toNat ∧ Y 159 ((20 * x1) + 1).toNat ≤ 7) ∧ (0 ≤ (up2 Y 156 0 0) 167 x1.toNat ∧ (up2 Y 156 0 0) 167 x1.toNat ≤ 96) ∧ (∀ k : Nat, (k : Int) < (up2 Y 156 0 0) 167 x1.toNat → 0 ≤ Y 169 ((96 * x1) + (k : Int)).toNat ∧ Y 169 ((96 * x1) + (k : Int)).toNat ≤ 1) ∧ (∀ k : Nat, (k : Int) < (up2 Y 156 0 0) 167 x1.toNat → 0 ≤ Y 170 ((96 * x1) + (k : Int)).toNat ∧ Y 170 ((96 * x1) + (k : Int)).toNat ≤ 1) := fun h0 h1 => by
      obtain ⟨p, hp⟩ : ∃ p : Nat, x1 = (p : Int) := ⟨x1.toNat, by omega⟩
      subst hp
      obtain ⟨r, s, cc, k1, k2, k3, k4, ⟨k5, k6, k7⟩, k8, k9, k10, k11⟩ := pM_IV hY (p := p) (by omega)
      have := ln_96 k1
      rw [k5, k6, up2_a _ (by decide), Int.toNat_natCast, k8]
      exact ⟨by omega, by omega, by omega, fun k hk => k9 k (by omega), fun k hk => k10 k (by omega)⟩
    refine (fun hm => ?m2) (c_X12_piece (d := 0) (I := Y) (S := S') (x1 := x1) (x2 := x2) (IV_L hY).2.1 ?_ ?_ ?_ ?_ ?_ ?_ ?_ ?_ ?_ ?_ ?_ ?_ ?_ ?_ ?_ ?_ ?_ ?_ ?_ ?_ ?_ ?_ ?_ ?_ ?_ ?_ ?_ ?_ ?_ ?_ ?_)
    case m2 =>
      rw [m1] at hm
      exact hm
    all_goals (intros; first | omega | exact (pM (by omega) (by omega)).1 | exact (pM (by omega) (by omega)).2.1 | exact (pM (by omega) (by omega)).2.2.1 | exact (pM (by omega) (by omega)).2.2.2.1 _ (by assumption) | exact (pM (by omega) (by omega)).2.2.2.2 _ (by assumption) | (have := pM (by omega) (by omega); omega) | skip)
  by_cases w : 0 ≤ x1 ∧ x1 < (P : Int)
  · obtain ⟨p, hp⟩ : ∃ p : Nat, x1 = (p : Int) := ⟨x1.toNat, by omega⟩
    have hpP : p < P := by omega
    subst hp
    obtain ⟨r0, a, J1, S1, hr0, q1, ⟨q2, q3⟩, q4, q5, q6, ⟨q7, q8, q9⟩, q10⟩ := rg_IV h hpP
    obtain ⟨z1, z2, z3, z4⟩ := rgO_z q3
    obtain ⟨r, J, S2, hr, t1, t2, t3, t4, t5, t6, t7⟩ := st_IV h hpP
    have er : r0 = r := by rw [q7] at t5; omega
    subst er
    have hln := ln_96 hr
    obtain ⟨r', s, cc, k1, k2, k3, ⟨k40, k41, k43, k44, k46⟩, ⟨k5, k6, k7⟩, k8, k9, k10, k11⟩ := pM_IV h hpP
    have er : r' = r0 := by rw [q7] at k43; omega
    subst er
    have v15 : 0 ≤ I (T + 7 + 9 * p) 4 ∧ I (T + 7 + 9 * p) 4 ≤ 15 := by rw [k44]; omega
    have hc := c_X11_piece (d := 10) (I := I) (S := S) (x1 := (p : Int)) (x2 := x2) (J1 := J1) (S1 := S1) (z1 := a) (J2 := J) (S2 := S2) (J3 := J) (S3 := S2) (J4 := J) (S4 := S2) (J5 := J) (S5 := S2) (J6 := J) (S6 := S2) (J7 := J) (S7 := S2) l1 (fun _ _ => by omega) (fun _ => by omega) (fun _ _ => by rw [Int.toNat_natCast]; exact v15) (fun _ _ => by rw [Int.toNat_natCast]; exact q1) (fun _ _ => q6) (fun _ _ => z1) (fun _ _ => by rw [Int.toNat_natCast]; exact t1) (fun _ _ => t4) (fun _ _ => by rw [Int.toNat_natCast]; exact t1) (fun _ _ => t4) (fun _ _ => by rw [Int.toNat_natCast]; exact t1) (fun _ _ => t4) (fun _ _ => by rw [Int.toNat_natCast]; exact t1) (fun _ _ => t4) (fun _ _ => by rw [Int.toNat_natCast]; exact t1) (fun _ _ => t4) (fun _ _ => by rw [Int.toNat_natCast]; exact t1) (fun _ _ => t4)
    rw [e1, Int.toNat_natCast] at hc
    simp only [if_pos w] at hc
    have ok0 : ∀ v : Int, Ca 34 mX11_piece [vR (some (21, 0, 31)), vI (p : Int), vI x2] (I, S) (.inl (some (vI v))) (I, S) → (∀ Y : Nat → Nat → Int, IV (c + 1) T U n P R N Y S → (∀ b, b ≠ 191 → Y b = I b) → Ca 3 mX12_piece [vR (some (22, 0, 156)), vI (p : Int), vI x2] (Y, S) (.inl (some (vI v))) (up2 Y 156 0 0, S)) → outC c mX11_piece mX12_piece ecI [vI (p : Int), vI x2] I S := fun v hc hM =>
      mk_ok0 h (Ca.deep hc (by omega)) fR_refl (fun Y hY hYJ => ⟨_, Ca.deep (hM Y hY hYJ) (by omega), up2_same _ _ _ _, fR_0⟩)
    have ok1 : ∀ v : Int, Ca 34 mX11_piece [vR (some (21, 0, 31)), vI (p : Int), vI x2] (I, S) (.inl (some (vI v))) (J, S2) → (∀ Y : Nat → Nat → Int, IV (c + 1) T U n P R N Y S2 → (∀ b, b ≠ 191 → Y b = J b) → Ca 3 mX12_piece [vR (some (22, 0, 156)), vI (p : Int), vI x2] (Y, S2) (.inl (some (vI v))) (up2 Y 156 0 0, S2)) → outC c mX11_piece mX12_piece ecI [vI (p : Int), vI x2] I S := fun v hc hM =>
      mk_okI (Ca.deep hc (by omega)) (IV_c t7 (by omega)) (t3.1 0 (by omega) (by omega) (by omega) (by omega) (by omega) (by omega) (by omega)) (fun Y hY hYJ => ⟨_, Ca.deep (hM Y hY hYJ) (by omega), up2_same _ _ _ _, fR_0⟩)
    have w13 : ∀ {x : Int}, (0 ≤ x ∧ x ≤ 12) → (0 ≤ x ∧ x ≤ 12) := fun q => q
    obtain ⟨r2, s2, cc2, i1, i2, i3, ⟨i40, i41, i43, i44, i46⟩, ⟨i5, i6, i7⟩, i8, i9, i10, i11⟩ := pM_IV t7 hpP
    have er2 : r2 = r' := by
      rw [t3.2 3 (by omega) (by omega), t5] at i43
      omega
    subst er2
    obtain ⟨p6, p7, p11, p8, _⟩ := stw t2 hln i9 i10
    have yj : ∀ Y : Nat → Nat → Int, (∀ b, b ≠ 191 → Y b = J b) → (up2 Y 156 0 0) 167 (p : Int).toNat = (lnC r2 : Int) := fun Y hYJ => by rw [up2_a _ (by decide), hYJ 167 (by decide), Int.toNat_natCast]; exact i8
    by_cases x20 : x2 = 0
    · simp only [ if_pos x20] at hc
      refine ok0 _ hc (fun Y hY hYJ => ?_)
      have hm := mm Y _ hY
      simp only [if_pos w, if_pos (show 0 ≤ x2 ∧ x2 ≤ 12 by omega),  if_pos x20] at hm
      rw [hYJ 159 (by decide), ← k40] at hm
      exact hm
    by_cases x21 : x2 = 1
    · simp only [if_neg (show ¬(x2 = 0) by omega), if_pos x21] at hc
      refine ok0 _ hc (fun Y hY hYJ => ?_)
      have hm := mm Y _ hY
      simp only [if_pos w, if_pos (show 0 ≤ x2 ∧ x2 ≤ 12 by omega), if_neg (show ¬(x2 = 0) by omega), if_pos x21] at hm
      rw [hYJ 159 (by decide), k6, ← k41] at hm
      exact hm
    by_cases x22 : x2 = 2
    · simp only [if_neg (show ¬(x2 = 0) by omega), if_neg (show ¬(x2 = 1) by omega), if_pos x22] at hc
      refine ok0 _ hc (fun Y hY hYJ => ?_)
      have hm := mm Y _ hY
      simp only [if_pos w, if_pos (show 0 ≤ x2 ∧ x2 ≤ 12 by omega), if_neg (show ¬(x2 = 0) by omega), if_neg (show ¬(x2 = 1) by omega), if_pos x22] at hm
      rw [hYJ 159 (by decide), k5, ← q7] at hm
      exact hm
    by_cases x23 : x2 = 3
    · simp only [if_neg (show ¬(x2 = 0) by omega), if_neg (show ¬(x2 = 1) by omega), if_neg (show ¬(x2 = 2) by omega), if_pos x23] at hc
      refine ok0 _ hc (fun Y hY hYJ => ?_)
      have hm := mm Y _ hY
      simp only [if_pos w, if_pos (show 0 ≤ x2 ∧ x2 ≤ 12 by omega), if_neg (show ¬(x2 = 0) by omega), if_neg (show ¬(x2 = 1) by omega), if_neg (show ¬(x2 = 2) by omega), if_pos x23] at hm
      rw [hYJ 159 (by decide), k5, k6, ← k44] at hm
      exact hm
    by_cases x24 : x2 = 4
    · simp only [if_neg (show ¬(x2 = 0) by omega), if_neg (show ¬(x2 = 1) by omega), if_neg (show ¬(x2 = 2) by omega), if_neg (show ¬(x2 = 3) by omega), if_pos x24] at hc
      refine ok0 _ hc (fun Y hY hYJ => ?_)
      have hm := mm Y _ hY
      simp only [if_pos w, if_pos (show 0 ≤ x2 ∧ x2 ≤ 12 by omega), if_neg (show ¬(x2 = 0) by omega), if_neg (show ¬(x2 = 1) by omega), if_neg (show ¬(x2 = 2) by omega), if_neg (show ¬(x2 = 3) by omega), if_pos x24] at hm
      rw [hYJ 159 (by decide), k5, k6, ← k44] at hm
      have e : edM (up2 Y 156 0 0) (p : Int) = edM I (p : Int) := by
        funext k
        unfold edM
        rw [up2_a _ (by decide), hYJ 165 (by decide)]
      have e4 : (I (T + 7 + 9 * p) 4).toNat = r2 + 1 + s := by omega
      rw [e, e4, ← k11] at hm
      rw [e4]
      exact hm
    by_cases x25 : x2 = 5
    · simp only [if_neg (show ¬(x2 = 0) by omega), if_neg (show ¬(x2 = 1) by omega), if_neg (show ¬(x2 = 2) by omega), if_neg (show ¬(x2 = 3) by omega), if_neg (show ¬(x2 = 4) by omega), if_pos x25] at hc
      refine mk_ok h (Ca.deep hc (by omega)) (rf_fQ q5) (rf_C (IV_C h) q5) q4 (rf_rfS q5) (fun Y hY hYJ => ?_)
      have hm := mm Y _ hY
      simp only [if_pos w, if_pos (show 0 ≤ x2 ∧ x2 ≤ 12 by omega), if_neg (show ¬(x2 = 0) by omega), if_neg (show ¬(x2 = 1) by omega), if_neg (show ¬(x2 = 2) by omega), if_neg (show ¬(x2 = 3) by omega), if_neg (show ¬(x2 = 4) by omega), if_pos x25] at hm
      rw [rf_Y q5 hYJ (by decide), Int.toNat_natCast, k8, ← z3] at hm
      exact ⟨_, Ca.deep hm (by omega), up2_same _ _ _ _, fR_0⟩
    by_cases x26 : x2 = 6
    · simp only [if_neg (show ¬(x2 = 0) by omega), if_neg (show ¬(x2 = 1) by omega), if_neg (show ¬(x2 = 2) by omega), if_neg (show ¬(x2 = 3) by omega), if_neg (show ¬(x2 = 4) by omega), if_neg (show ¬(x2 = 5) by omega), if_pos x26] at hc
      refine ok1 _ hc (fun Y hY hYJ => ?_)
      have hm := mm Y _ hY
      simp only [if_pos w, if_pos (show 0 ≤ x2 ∧ x2 ≤ 12 by omega), if_neg (show ¬(x2 = 0) by omega), if_neg (show ¬(x2 = 1) by omega), if_neg (show ¬(x2 = 2) by omega), if_neg (show ¬(x2 = 3) by omega), if_neg (show ¬(x2 = 4) by omega), if_neg (show ¬(x2 = 5) by omega), if_pos x26] at hm
      rw [yj Y hYJ, Int.toNat_natCast, hYJ 169 (by decide), ← p6] at hm
      exact hm
    by_cases x27 : x2 = 7
    · simp only [if_neg (show ¬(x2 = 0) by omega), if_neg (show ¬(x2 = 1) by omega), if_neg (show ¬(x2 = 2) by omega), if_neg (show ¬(x2 = 3) by omega), if_neg (show ¬(x2 = 4) by omega), if_neg (show ¬(x2 = 5) by omega), if_neg (show ¬(x2 = 6) by omega), if_pos x27] at hc
      refine ok1 _ hc (fun Y hY hYJ => ?_)
      have hm := mm Y _ hY
      simp only [if_pos w, if_pos (show 0 ≤ x2 ∧ x2 ≤ 12 by omega), if_neg (show ¬(x2 = 0) by omega), if_neg (show ¬(x2 = 1) by omega), if_neg (show ¬(x2 = 2) by omega), if_neg (show ¬(x2 = 3) by omega), if_neg (show ¬(x2 = 4) by omega), if_neg (show ¬(x2 = 5) by omega), if_neg (show ¬(x2 = 6) by omega), if_pos x27] at hm
      rw [yj Y hYJ, Int.toNat_natCast, hYJ 171 (by decide), ← p7] at hm
      exact hm
    by_cases x28 : x2 = 8
    · simp only [if_neg (show ¬(x2 = 0) by omega), if_neg (show ¬(x2 = 1) by omega), if_neg (show ¬(x2 = 2) by omega), if_neg (show ¬(x2 = 3) by omega), if_neg (show ¬(x2 = 4) by omega), if_neg (show ¬(x2 = 5) by omega), if_neg (show ¬(x2 = 6) by omega), if_neg (show ¬(x2 = 7) by omega), if_pos x28] at hc
      refine ok1 _ hc (fun Y hY hYJ => ?_)
      have hm := mm Y _ hY
      simp only [if_pos w, if_pos (show 0 ≤ x2 ∧ x2 ≤ 12 by omega), if_neg (show ¬(x2 = 0) by omega), if_neg (show ¬(x2 = 1) by omega), if_neg (show ¬(x2 = 2) by omega), if_neg (show ¬(x2 = 3) by omega), if_neg (show ¬(x2 = 4) by omega), if_neg (show ¬(x2 = 5) by omega), if_neg (show ¬(x2 = 6) by omega), if_neg (show ¬(x2 = 7) by omega), if_pos x28] at hm
      rw [yj Y hYJ, Int.toNat_natCast, hYJ 171 (by decide), ← p8] at hm
      exact hm
    by_cases x29 : x2 = 9
    · simp only [if_neg (show ¬(x2 = 0) by omega), if_neg (show ¬(x2 = 1) by omega), if_neg (show ¬(x2 = 2) by omega), if_neg (show ¬(x2 = 3) by omega), if_neg (show ¬(x2 = 4) by omega), if_neg (show ¬(x2 = 5) by omega), if_neg (show ¬(x2 = 6) by omega), if_neg (show ¬(x2 = 7) by omega), if_neg (show ¬(x2 = 8) by omega), if_pos x29] at hc
      refine ok1 _ hc (fun Y hY hYJ => ?_)
      have hm := mm Y _ hY
      simp only [if_pos w, if_pos (show 0 ≤ x2 ∧ x2 ≤ 12 by omega), if_neg (show ¬(x2 = 0) by omega), if_neg (show ¬(x2 = 1) by omega), if_neg (show ¬(x2 = 2) by omega), if_neg (show ¬(x2 = 3) by omega), if_neg (show ¬(x2 = 4) by omega), if_neg (show ¬(x2 = 5) by omega), if_neg (show ¬(x2 = 6) by omega), if_neg (show ¬(x2 = 7) by omega), if_neg (show ¬(x2 = 8) by omega), if_pos x29] at hm
      rw [yj Y hYJ, Int.toNat_natCast, hYJ 171 (by decide), ← p7] at hm
      exact hm
    by_cases x30 : x2 = 10
    · simp only [if_neg (show ¬(x2 = 0) by omega), if_neg (show ¬(x2 = 1) by omega), if_neg (show ¬(x2 = 2) by omega), if_neg (show ¬(x2 = 3) by omega), if_neg (show ¬(x2 = 4) by omega), if_neg (show ¬(x2 = 5) by omega), if_neg (show ¬(x2 = 6) by omega), if_neg (show ¬(x2 = 7) by omega), if_neg (show ¬(x2 = 8) by omega), if_neg (show ¬(x2 = 9) by omega), if_pos x30] at hc
      refine ok0 _ hc (fun Y hY hYJ => ?_)
      have hm := mm Y _ hY
      simp only [if_pos w, if_pos (show 0 ≤ x2 ∧ x2 ≤ 12 by omega), if_neg (show ¬(x2 = 0) by omega), if_neg (show ¬(x2 = 1) by omega), if_neg (show ¬(x2 = 2) by omega), if_neg (show ¬(x2 = 3) by omega), if_neg (show ¬(x2 = 4) by omega), if_neg (show ¬(x2 = 5) by omega), if_neg (show ¬(x2 = 6) by omega), if_neg (show ¬(x2 = 7) by omega), if_neg (show ¬(x2 = 8) by omega), if_neg (show ¬(x2 = 9) by omega), if_pos x30] at hm
      rw [hYJ 159 (by decide), k7, ← k46] at hm
      exact hm
    by_cases x31 : x2 = 11
    · simp only [if_neg (show ¬(x2 = 0) by omega), if_neg (show ¬(x2 = 1) by omega), if_neg (show ¬(x2 = 2) by omega), if_neg (show ¬(x2 = 3) by omega), if_neg (show ¬(x2 = 4) by omega), if_neg (show ¬(x2 = 5) by omega), if_neg (show ¬(x2 = 6) by omega), if_neg (show ¬(x2 = 7) by omega), if_neg (show ¬(x2 = 8) by omega), if_neg (show ¬(x2 = 9) by omega), if_neg (show ¬(x2 = 10) by omega), if_pos x31] at hc
      refine ok1 _ hc (fun Y hY hYJ => ?_)
      have hm := mm Y _ hY
      simp only [if_pos w, if_pos (show 0 ≤ x2 ∧ x2 ≤ 12 by omega), if_neg (show ¬(x2 = 0) by omega), if_neg (show ¬(x2 = 1) by omega), if_neg (show ¬(x2 = 2) by omega), if_neg (show ¬(x2 = 3) by omega), if_neg (show ¬(x2 = 4) by omega), if_neg (show ¬(x2 = 5) by omega), if_neg (show ¬(x2 = 6) by omega), if_neg (show ¬(x2 = 7) by omega), if_neg (show ¬(x2 = 8) by omega), if_neg (show ¬(x2 = 9) by omega), if_neg (show ¬(x2 = 10) by omega), if_pos x31] at hm
      rw [yj Y hYJ, Int.toNat_natCast, hYJ 170 (by decide), ← p11] at hm
      exact hm
    by_cases x32 : x2 = 12
    · simp only [if_neg (show ¬(x2 = 0) by omega), if_neg (show ¬(x2 = 1) by omega), if_neg (show ¬(x2 = 2) by omega), if_neg (show ¬(x2 = 3) by omega), if_neg (show ¬(x2 = 4) by omega), if_neg (show ¬(x2 = 5) by omega), if_neg (show ¬(x2 = 6) by omega), if_neg (show ¬(x2 = 7) by omega), if_neg (show ¬(x2 = 8) by omega), if_neg (show ¬(x2 = 9) by omega), if_neg (show ¬(x2 = 10) by omega), if_neg (show ¬(x2 = 11) by omega), if_pos x32] at hc
      refine ok1 _ hc (fun Y hY hYJ => ?_)
      have hm := mm Y _ hY
      simp only [if_pos w, if_pos (show 0 ≤ x2 ∧ x2 ≤ 12 by omega), if_neg (show ¬(x2 = 0) by omega), if_neg (show ¬(x2 = 1) by omega), if_neg (show ¬(x2 = 2) by omega), if_neg (show ¬(x2 = 3) by omega), if_neg (show ¬(x2 = 4) by omega), if_neg (show ¬(x2 = 5) by omega), if_neg (show ¬(x2 = 6) by omega), if_neg (show ¬(x2 = 7) by omega), if_neg (show ¬(x2 = 8) by omega), if_neg (show ¬(x2 = 9) by omega), if_neg (show ¬(x2 = 10) by omega), if_neg (show ¬(x2 = 11) by omega)] at hm
      rw [← icC_M (Z := up2 Y 156 0 0) t2 hln i9 i10 i46 i7 i8 (fun b h1 h2 => by rw [← hYJ b h2]; exact funext (fun j => up2_a _ h1))] at hm
      exact hm
    · simp only [if_neg (show ¬(x2 = 0) by omega), if_neg (show ¬(x2 = 1) by omega), if_neg (show ¬(x2 = 2) by omega), if_neg (show ¬(x2 = 3) by omega), if_neg (show ¬(x2 = 4) by omega), if_neg (show ¬(x2 = 5) by omega), if_neg (show ¬(x2 = 6) by omega), if_neg (show ¬(x2 = 7) by omega), if_neg (show ¬(x2 = 8) by omega), if_neg (show ¬(x2 = 9) by omega), if_neg (show ¬(x2 = 10) by omega), if_neg (show ¬(x2 = 11) by omega), if_neg x32] at hc
      refine mk_thr0 h (ec := ecI) (by decide) (Ca.deep hc (by omega)) fR_refl (fun Y hY hYJ => ?_)
      have hm := mm Y _ hY
      simp only [if_pos w, if_neg (show ¬(0 ≤ x2 ∧ x2 ≤ 12) by omega)] at hm
      exact ⟨_, _, Ca.deep hm (by omega), up2_same _ _ _ _, fR_00⟩
  · have nw : ∀ {G : Prop}, (0 ≤ x1 ∧ x1 < I T 1) → G := fun q => absurd (show 0 ≤ x1 ∧ x1 < (P : Int) by omega) w
    have hc := c_X11_piece (d := 0) (I := I) (S := S) (x1 := x1) (x2 := x2) (J1 := I) (S1 := S) (z1 := 0) (J2 := I) (S2 := S) (J3 := I) (S3 := S) (J4 := I) (S4 := S) (J5 := I) (S5 := S) (J6 := I) (S6 := S) (J7 := I) (S7 := S) l1 (fun q1 q2 => nw ⟨q1, q2⟩) (fun q => nw q) (fun q _ => nw q) (fun q _ => nw q) (fun q _ => nw q) (fun q _ => nw q) (fun q _ => nw q) (fun q _ => nw q) (fun q _ => nw q) (fun q _ => nw q) (fun q _ => nw q) (fun q _ => nw q) (fun q _ => nw q) (fun q _ => nw q) (fun q _ => nw q) (fun q _ => nw q) (fun q _ => nw q) (fun q _ => nw q)
    rw [e1] at hc
    simp only [if_neg w] at hc
    refine mk_thr0 h (ec := ecI) (by decide) (Ca.deep hc (by omega)) fR_refl (fun Y hY hYJ => ?_)
    have hm := mm Y _ hY
    simp only [if_neg w] at hm
    exact ⟨_, _, Ca.deep hm (by omega), up2_same _ _ _ _, fR_00⟩
end
end
