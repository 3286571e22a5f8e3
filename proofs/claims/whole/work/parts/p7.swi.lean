/-! ===== switched, both sides ===== -/
noncomputable section
section
variable {d : Nat} {I J K X Y Z : Nat → Nat → Int} {S S' S1 : PS} {c T U n P R N A a2 p s r a : Nat} {dg b : Int}
theorem bt_uN (x : Int) (i : Nat) : bt x i = (uN x).testBit i := rfl
theorem ushr_0 {x : Int} (hx : isI x) {m : Nat} (hm : m ≤ 30) : p_ushr x (m : Int) = 0 ↔ 0 ≤ x ∧ x < 2 ^ m := by
  have hu := uN_ushr x m (by omega)
  have hp : 0 < 2 ^ m := Nat.pow_pos (by decide)
  constructor
  · intro h
    rw [h, show uN 0 = 0 from rfl] at hu
    have hl : uN x < 2 ^ m := by
      rcases Nat.div_eq_zero_iff.mp hu.symm with e | e
      · omega
      · exact e
    exact bt_small (by omega) hx (fun i h1 _ => by
      rw [bt_uN]
      exact Nat.testBit_lt_two_pow (Nat.lt_of_lt_of_le hl (Nat.pow_le_pow_right (by decide) h1)))
  · intro h
    have hl : uN x < 2 ^ m := Nat.lt_pow_two_of_testBit _ (fun i hi => by
      rw [← bt_uN]
      exact bt_of_small (by omega) h hi)
    rw [Nat.div_eq_of_lt hl] at hu
    refine bt_ext (isI_of _) ⟨by decide, by decide⟩ (fun i hi => ?_)
    rw [bt_uN, hu, Nat.zero_testBit, bt_zero]
theorem ush_R {x R : Int} (hx : isI x) (hR : R = 1 ∨ R = 2 ∨ R = 4 ∨ R = 6) : p_ushr x R = 0 ↔ 0 ≤ x ∧ x < p_shl 1 R := by
  rcases hR with e | e | e | e <;> subst e
  · exact ushr_0 hx (m := 1) (by decide)
  · exact ushr_0 hx (m := 2) (by decide)
  · exact ushr_0 hx (m := 4) (by decide)
  · exact ushr_0 hx (m := 6) (by decide)
theorem sw_M {i q s : Nat} {F : Nat → Int} (hl0 : LyX12 S) (hr : r = 5 ∨ r = 6 ∨ r = 7) (hp : p < 4) (hpP : (p : Int) < I 156 13) (h9 : I 159 ((20 * (p : Int)) + 9).toNat = (r : Int)) (h7 : I 167 p = (lnC r : Int)) (h8 : ∀ i : Nat, i < lnC r → I 168 ((96 * (p : Int)) + (i : Int)).toNat = F i) (hF : ∀ i, i < lnC r → F i = (cdN r i : Int)) (hi : i < lnC r) (hq : q < 3) (hs : (s : Int) < p_shl 1 (rnC (r : Int) (cdN r i : Int) (q : Int))) : ∃ K, Ca 5 mX12_switched [vR (some (22, 0, 156)), vI (p : Int), vI (i : Int), vI (q : Int), vI (s : Int)] (I, S) (.inl (some (vI (fstB (fun k => decide (F k = (tgN r (cdN r i) q s : Int))) (lnC r))))) (K, S) ∧ K 156 0 = 0 ∧ fR U I K := by
  have hln := ln_96 hr
  have h7' : (up2 I 156 0 0) 167 (p : Int).toNat = (lnC r : Int) := by rw [up2_a _ (by decide), Int.toNat_natCast]; exact h7
  have w1 : (0 ≤ (p : Int) ∧ (p : Int) < I 156 13) ∧ 0 ≤ (i : Int) ∧ (i : Int) < (up2 I 156 0 0) 167 (p : Int).toNat := ⟨⟨by omega, hpP⟩, by omega, by rw [h7']; omega⟩
  have hcode : I 168 ((96 * (p : Int)) + (i : Int)).toNat = (cdN r i : Int) := by rw [h8 i hi, hF i hi]
  have hm31 : cdN r i < 2147483648 := by have := (cdI_le hr hi).2; omega
  obtain ⟨L, hL⟩ : ∃ L, L = lrI (up2 I 156 0 0) (I 159 ((20 * (p : Int)) + 9).toNat) (I 168 ((96 * (p : Int)) + (i : Int)).toNat) (q : Int) := ⟨_, rfl⟩
  have lb : ∀ b, b ≠ 156 → b ≠ 175 → L b = I b := fun b h1 h2 => by
    rw [hL]
    unfold lrI
    rw [up1_o _ h2]
    funext j
    rw [up2_a _ h1, up2_a _ h1]
  have l37 : L 156 37 = rnC (r : Int) (cdN r i : Int) (q : Int) := by
    rw [hL]
    unfold lrI
    rw [up1_o _ (by decide), up2_same, h9, hcode]
  have l0 : L 156 0 = 0 := by
    rw [hL]
    unfold lrI
    rw [up1_o _ (by decide), up2_k _ (by decide), up2_same]
  have lr : ∀ k, k < r → L 175 k = (raN r (cdN r i) q k : Int) := fun k hk => by
    rw [hL]
    unfold lrI
    rw [up1_same, h9, hcode, Int.toNat_natCast, upTo_in (by omega)]
    exact ra_nat (by omega) hm31 hk
  have lf : fR U I L := by
    rw [hL]
    unfold lrI
    refine fR_trans (fR_trans (fR_0 (v := 0)) (fR_156 (k := 37) (v := rnC (I 159 ((20 * (p : Int)) + 9).toNat) (I 168 ((96 * (p : Int)) + (i : Int)).toNat) (q : Int)) (by unfold cr; omega))) (fR_scr (fun a ha => up1_o _ (fun e => ha ⟨by rw [e]; unfold scr; omega, by omega⟩)))
  have l9 : L 159 ((20 * (p : Int)) + 9).toNat = (r : Int) := by rw [lb 159 (by decide) (by decide)]; exact h9
  have l8 : L 168 = I 168 := lb 168 (by decide) (by decide)
  have ltg : (nmS (r : Int) (swS (r : Int) (cdN r i : Int) (q : Int) (L 175) (s : Int) r) r).1 = (tgN r (cdN r i) q s : Int) := tg_nat (by omega) hm31 hq lr
  obtain ⟨y, hy⟩ : ∃ y, y = swS (r : Int) (cdN r i : Int) (q : Int) (L 175) (s : Int) r := ⟨_, rfl⟩
  have n7 : (nmI L (r : Int) y) 167 (p : Int).toNat = (lnC r : Int) := by
    rw [show (nmI L (r : Int) y) 167 = L 167 from up1_o _ (by decide), lb 167 (by decide) (by decide), Int.toNat_natCast]
    exact h7
  refine ⟨nmI L (r : Int) y, ?_, by rw [show (nmI L (r : Int) y) 156 = L 156 from up1_o _ (by decide)]; exact l0, fR_trans lf (fR_scr (fun a ha => up1_o _ (fun e => ha ⟨by rw [e]; unfold scr; omega, by omega⟩)))⟩
  refine w_X12_switched_0 (d := 0) (I := I) (S := S) (x1 := (p : Int)) (x2 := (i : Int)) (x3 := (q : Int)) (x4 := (s : Int)) hl0 (fun _ _ q => absurd q (by omega)) (e1 := fun _ _ q => absurd q (by omega)) (r2 := fun _ _ q => absurd q (by omega)) (e2 := fun _ _ q => absurd q (by omega)) (r3 := fun _ _ _ _ q => q.elim) (e3 := fun _ _ _ _ q => q.elim) (r4 := fun _ _ _ q' => absurd q' (by rw [← hL, l37]; omega)) (e4 := fun _ _ _ q' => absurd q' (by rw [← hL, l37]; omega)) (r5 := fun _ _ _ _ _ => ?_) (e5 := fun _ _ _ _ _ => ?_) (r6 := fun _ _ _ _ q => absurd trivial q) (e6 := fun _ _ _ _ q => absurd trivial q) (r7 := fun _ q' => absurd (show 0 ≤ (q : Int) ∧ (q : Int) ≤ 2 by omega) q') (e7 := fun _ q' => absurd (show 0 ≤ (q : Int) ∧ (q : Int) ≤ 2 by omega) q') (r8 := fun q' => absurd w1 q') (e8 := fun q' => absurd w1 q') (v1 := fun _ _ => by omega) (v2 := fun _ _ => by omega) (v3 := fun _ _ => by omega) (v4 := fun _ _ => by omega) (v5 := fun _ _ => by omega) (v6 := fun _ _ => by rw [h9]; omega) (v7 := fun _ _ => by omega) (v8 := fun _ _ q => absurd q (by omega)) (v9 := fun _ _ q => absurd q (by omega)) (v10 := fun _ _ q => absurd q (by omega)) (v11 := fun _ _ _ _ => by rw [← hL]; exact l0) (v12 := fun _ _ _ _ q => q.elim) (v13 := fun _ _ _ _ q => q.elim) (v14 := fun _ _ _ _ => by rw [← hL]; exact l0) (v15 := fun _ _ _ _ _ => by rw [← hL, l9]; omega) (v16 := fun _ _ _ _ _ => ?_)
  · rw [← hL, l9, l8, hcode, Int.toNat_natCast, ← hy, n7, Int.toNat_natCast, hy, ltg]
    exact fstB_congr (fun k hk => by rw [h8 k hk])
  · rw [← hL, l9, l8, hcode, Int.toNat_natCast, ← hy]
  · rw [← hL, l9, l8, hcode, Int.toNat_natCast, ← hy, n7]
    omega
theorem sw_N1 {x1 x2 x3 x4 : Int} (hl0 : LyX12 S) (h4 : I 156 13 ≤ 4) (w : ¬(((0 ≤ x1 ∧ x1 < I 156 13) ∧ 0 ≤ x2 ∧ x2 < I 167 x1.toNat) ∧ (0 ≤ x3 ∧ x3 ≤ 2))) : Ca 5 mX12_switched [vR (some (22, 0, 156)), vI x1, vI x2, vI x3, vI x4] (I, S) (.inl (some (vI 0))) (up2 (up2 I 156 0 0) 156 0 1, S) := by
  have e : (up2 I 156 0 0) 167 x1.toNat = I 167 x1.toNat := up2_a _ (by decide)
  have n : ∀ {G : Prop}, ((0 ≤ x1 ∧ x1 < I 156 13) ∧ 0 ≤ x2 ∧ x2 < (up2 I 156 0 0) 167 x1.toNat) → (0 ≤ x3 ∧ x3 ≤ 2) → G := fun q1 q2 => absurd (show ((0 ≤ x1 ∧ x1 < I 156 13) ∧ 0 ≤ x2 ∧ x2 < I 167 x1.toNat) ∧ (0 ≤ x3 ∧ x3 ≤ 2) by rw [← e]; exact ⟨q1, q2⟩) w
  exact w_X12_switched_0 (d := 0) (I := I) (S := S) (x1 := x1) (x2 := x2) (x3 := x3) (x4 := x4) hl0 (fun q1 q2 _ _ => n q1 q2) (e1 := fun q1 q2 _ _ => n q1 q2) (r2 := fun q1 q2 _ _ => n q1 q2) (e2 := fun q1 q2 _ _ => n q1 q2) (r3 := fun q1 q2 _ _ _ => n q1 q2) (e3 := fun q1 q2 _ _ _ => n q1 q2) (r4 := fun q1 q2 _ _ _ => n q1 q2) (e4 := fun q1 q2 _ _ _ => n q1 q2) (r5 := fun q1 q2 _ _ _ => n q1 q2) (e5 := fun q1 q2 _ _ _ => n q1 q2) (r6 := fun q1 q2 _ _ _ => n q1 q2) (e6 := fun q1 q2 _ _ _ => n q1 q2) (r7 := fun _ _ => rfl) (e7 := fun _ _ => rfl) (r8 := fun _ => rfl) (e8 := fun _ => rfl) (v1 := fun _ _ => by omega) (v2 := fun q1 q2 => n q1 q2) (v3 := fun q1 q2 => n q1 q2) (v4 := fun q1 q2 => n q1 q2) (v5 := fun q1 q2 => n q1 q2) (v6 := fun q1 q2 => n q1 q2) (v7 := fun q1 q2 => n q1 q2) (v8 := fun q1 q2 _ => n q1 q2) (v9 := fun q1 q2 _ _ => n q1 q2) (v10 := fun q1 q2 _ _ => n q1 q2) (v11 := fun q1 q2 _ _ => n q1 q2) (v12 := fun q1 q2 _ _ _ => n q1 q2) (v13 := fun q1 q2 _ _ _ => n q1 q2) (v14 := fun q1 q2 _ _ => n q1 q2) (v15 := fun q1 q2 _ _ _ => n q1 q2) (v16 := fun q1 q2 _ _ _ => n q1 q2)
theorem sw_N2 {x1 x2 x3 x4 : Int} (hl0 : LyX12 S) (h4 : I 156 13 ≤ 4) (hm : I 167 x1.toNat ≤ 96) (hr : 1 ≤ I 159 ((20 * x1) + 9).toNat ∧ I 159 ((20 * x1) + 9).toNat ≤ 7) (w : ((0 ≤ x1 ∧ x1 < I 156 13) ∧ 0 ≤ x2 ∧ x2 < I 167 x1.toNat) ∧ (0 ≤ x3 ∧ x3 ≤ 2)) (w4 : ¬(0 ≤ x4 ∧ x4 < p_shl 1 (rnC (I 159 ((20 * x1) + 9).toNat) (I 168 ((96 * x1) + x2).toNat) x3))) : ∃ K, Ca 5 mX12_switched [vR (some (22, 0, 156)), vI x1, vI x2, vI x3, vI x4] (I, S) (.inl (some (vI 0))) (K, S) ∧ K 156 0 = 2 ∧ fR U I K := by
  have w1 : (0 ≤ x1 ∧ x1 < I 156 13) ∧ 0 ≤ x2 ∧ x2 < (up2 I 156 0 0) 167 x1.toNat := by rw [up2_a _ (by decide)]; exact w.1
  obtain ⟨L, hL⟩ : ∃ L, L = lrI (up2 I 156 0 0) (I 159 ((20 * x1) + 9).toNat) (I 168 ((96 * x1) + x2).toNat) x3 := ⟨_, rfl⟩
  have l37 : L 156 37 = rnC (I 159 ((20 * x1) + 9).toNat) (I 168 ((96 * x1) + x2).toNat) x3 := by
    rw [hL]
    unfold lrI
    rw [up1_o _ (by decide), up2_same]
  have l0 : L 156 0 = 0 := by
    rw [hL]
    unfold lrI
    rw [up1_o _ (by decide), up2_k _ (by decide), up2_same]
  have lf : fR U I L := by
    rw [hL]
    unfold lrI
    refine fR_trans (fR_trans (fR_0 (v := 0)) (fR_156 (k := 37) (v := rnC (I 159 ((20 * x1) + 9).toNat) (I 168 ((96 * x1) + x2).toNat) x3) (by unfold cr; omega))) (fR_scr (fun a ha => up1_o _ (fun e => ha ⟨by rw [e]; unfold scr; omega, by omega⟩)))
  rw [← l37] at w4
  refine ⟨up2 L 156 0 2, ?_, up2_same _ _ _ _, fR_trans lf fR_0⟩
  exact w_X12_switched_0 (d := 0) (I := I) (S := S) (x1 := x1) (x2 := x2) (x3 := x3) (x4 := x4) hl0 (fun _ _ _ q => q.elim) (e1 := fun _ _ _ q => q.elim) (r2 := fun _ _ _ _ => rfl) (e2 := fun _ _ _ _ => by rw [← hL]) (r3 := fun _ _ _ _ q => q.elim) (e3 := fun _ _ _ _ q => q.elim) (r4 := fun _ _ _ _ _ => rfl) (e4 := fun _ _ _ _ _ => by rw [← hL]) (r5 := fun _ _ q1 q2 _ => absurd ⟨q1, by rw [hL]; exact q2⟩ w4) (e5 := fun _ _ q1 q2 _ => absurd ⟨q1, by rw [hL]; exact q2⟩ w4) (r6 := fun _ _ _ _ q => absurd trivial q) (e6 := fun _ _ _ _ q => absurd trivial q) (r7 := fun _ q' => absurd w.2 q') (e7 := fun _ q' => absurd w.2 q') (r8 := fun q' => absurd w1 q') (e8 := fun q' => absurd w1 q') (v1 := fun _ _ => by omega) (v2 := fun _ _ => by omega) (v3 := fun _ _ => by omega) (v4 := fun _ _ => by omega) (v5 := fun _ _ => by omega) (v6 := fun _ _ => hr) (v7 := fun _ _ => w.2) (v8 := fun _ _ _ => by rw [← hL]; exact l0) (v9 := fun _ _ _ q => q.elim) (v10 := fun _ _ _ q => q.elim) (v11 := fun _ _ _ _ => by rw [← hL]; exact l0) (v12 := fun _ _ _ _ q => q.elim) (v13 := fun _ _ _ _ q => q.elim) (v14 := fun _ _ _ _ => by rw [← hL]; exact l0) (v15 := fun _ _ q1 q2 _ => absurd ⟨q1, by rw [hL]; exact q2⟩ w4) (v16 := fun _ _ q1 q2 _ => absurd ⟨q1, by rw [hL]; exact q2⟩ w4)
theorem pu_switched {x1 x2 x3 x4 : Int} (h : IV c T U n P R N I S) (hx4 : isI x4) : outC c mX11_switched mX12_switched ecN [vI x1, vI x2, vI x3, vI x4] I S := by
  obtain ⟨l1, l2, hT⟩ := IV_L h
  obtain ⟨⟨b1, b2, b3⟩, ⟨e1, e2, e3⟩, f1, f2, f3⟩ := fc_IV h
  by_cases w : 0 ≤ x1 ∧ x1 < (P : Int)
  · obtain ⟨p, hp⟩ : ∃ p : Nat, x1 = (p : Int) := ⟨x1.toNat, by omega⟩
    have hpP : p < P := by omega
    subst hp
    obtain ⟨r, a, J, S1, hr, q1, ⟨q2, q3⟩, q4, q5, q6, ⟨q7, q8, q9⟩, q10⟩ := rg_IV h hpP
    obtain ⟨z1, z2, z3, z4⟩ := rgO_z q3
    have hln := ln_96 hr
    have hj := IV_rf h q5 q4
    have yr : ∀ (Y : Nat → Nat → Int), (∀ b, b < 191 → Y b = I b) → Y 159 ((20 * (p : Int)) + 9).toNat = (r : Int) ∧ (up2 Y 156 0 0) 167 (p : Int).toNat = (lnC r : Int) ∧ ∀ x : Int, 0 ≤ x → x < (lnC r : Int) → Y 168 ((96 * (p : Int)) + x).toNat = J (a + 1) x.toNat := fun Y hYI =>
      ⟨by rw [hYI 159 (by decide), show ((20 * (p : Int)) + 9).toNat = 20 * p + 9 by omega]; exact q8, by rw [up2_a _ (by decide), hYI 167 (by decide), Int.toNat_natCast]; exact q9.1, fun x h0 h1 => by
        rw [hYI 168 (by decide), z4 x.toNat (by omega), show ((96 * (p : Int)) + x).toNat = 96 * p + x.toNat by omega]
        exact q9.2.1 x.toNat (by omega)⟩
    obtain ⟨L, hL⟩ : ∃ L, L = spI J a (J a 0) (J (a + 1) x2.toNat) x3 := ⟨_, rfl⟩
    have e : ∀ b, b ≠ a + 2 → L b = J b := fun b hb => by rw [hL]; exact up1_o _ hb
    have L0 : L a 0 = (r : Int) := by rw [e a (by omega)]; exact z2
    have L1 : L a 1 = (lnC r : Int) := by rw [e a (by omega)]; exact z3
    have sp : fQ U J L ∧ iC L ∧ rgI L S1 := ⟨⟨fun b h1 _ _ _ _ => e b (by omega), fun k _ => by rw [e 156 (by omega)], fun k _ => by rw [e 178 (by omega)]⟩, iC_e (IV_C hj) (e 122 (by omega)) (e 123 (by omega)), rgI_a2 q4 (show r - 5 < 3 by omega) q10 e⟩
    have hsort : ∀ i j : Nat, i < j → (j : Int) < L a 1 → L (a + 1) i < L (a + 1) j := fun i j hij hjn => by
      rw [L1] at hjn
      rw [e (a + 1) (by omega), z4 i (by omega), z4 j (by omega)]
      exact Int.ofNat_lt.mpr (cd_lt hr hij (by omega))
    have hc := c_X11_switched (d := 10) (I := I) (S := S) (x1 := (p : Int)) (x2 := x2) (x3 := x3) (x4 := x4) (J1 := J) (S1 := S1) (z1 := a) l1 (fun _ _ => by omega) (fun _ => by omega) (fun _ _ q => by rw [z3] at q; omega) (fun _ _ _ _ => by rw [z2]; omega) (fun _ q _ _ => by rw [z3] at q; rw [z2, z4 x2.toNat (by omega)]; exact cd_0 hr (by omega)) (fun _ _ _ _ => by omega) (fun _ _ _ _ _ => by rw [← hL, L0]; omega) (fun _ _ _ _ _ => by rw [← hL, L1]; omega) (fun _ _ _ _ _ => by rw [← hL]; exact hsort) (fun _ => by rw [Int.toNat_natCast]; exact q1) (fun _ => q6) (fun _ => z1)
    rw [← hL, e1, z2, z3, L0, L1, Int.toNat_natCast, Int.toNat_natCast] at hc
    simp only [if_pos w] at hc
    have bad : Ca 34 mX11_switched [vR (some (21, 0, 31)), vI (p : Int), vI x2, vI x3, vI x4] (I, S) (.inr 1) (J, exS S1) → (¬((0 ≤ x2 ∧ x2 < (lnC r : Int)) ∧ (0 ≤ x3 ∧ x3 ≤ 2))) → outC c mX11_switched mX12_switched ecN [vI (p : Int), vI x2, vI x3, vI x4] I S := fun hc w2 => by
      refine mk_thr h ecN_1 (Ca.deep hc (by omega)) (rf_fQ q5) (rf_C (IV_C h) q5) q4 (rf_rfS q5) (fun Y hY hYJ => ?_)
      obtain ⟨_, ⟨m1, m2, m3⟩, g1, g2, g3⟩ := fm_IV hY
      obtain ⟨y1, y2, y3⟩ := yr Y (fun b hb => rf_Y q5 hYJ hb)
      rw [up2_a _ (by decide)] at y2
      exact ⟨_, _, Ca.deep (sw_N1 (IV_L hY).2.1 (by omega) (by rw [y2]; exact fun z => w2 ⟨z.1.2, z.2⟩)) (by omega), up2_same _ _ _ _, fR_00⟩
    by_cases w2 : 0 ≤ x2 ∧ x2 < (lnC r : Int)
    · simp only [if_pos w2] at hc
      by_cases w3 : x3 < 0
      · simp only [if_pos w3] at hc
        exact bad hc (by omega)
      simp only [if_neg w3] at hc
      by_cases w4 : x3 < 3
      · simp only [if_pos w4] at hc
        obtain ⟨i, hi⟩ : ∃ i : Nat, x2 = (i : Int) := ⟨x2.toNat, by omega⟩
        have hiN : i < lnC r := by omega
        subst hi
        obtain ⟨q, hq⟩ : ∃ q : Nat, x3 = (q : Int) := ⟨x3.toNat, by omega⟩
        have hq3 : q < 3 := by omega
        subst hq
        rw [Int.toNat_natCast, z4 i hiN] at hc
        have hm31 : cdN r i < 2147483648 := by have := (cdI_le hr hiN).2; omega
        have hRv := rnC_v (q := (q : Int)) hr hiN (by omega)
        have hus := ush_R hx4 hRv.1
        have hIV : IV c T U n P R N L S1 := IV_0 hj sp.1 sp.2.1 sp.2.2 rfS_refl
        have yL : ∀ (Y : Nat → Nat → Int), (∀ b, b ≠ 191 → Y b = L b) → ∀ b, b < 191 → Y b = I b := fun Y hYJ b hb => by rw [hYJ b (by omega), e b (by omega)]; exact q5.1 b (by omega)
        by_cases w5 : p_ushr x4 (rnC (r : Int) (cdN r i : Int) (q : Int)) = 0
        · simp only [if_pos w5] at hc
          have w6 := hus.mp w5
          obtain ⟨s, hs⟩ : ∃ s : Nat, x4 = (s : Int) := ⟨x4.toNat, by omega⟩
          subst hs
          have lr : ∀ k, k < r → L (a + 2) k = (raN r (cdN r i) q k : Int) := fun k hk => by
            rw [hL]
            unfold spI
            rw [up1_same, z2, Int.toNat_natCast, Int.toNat_natCast, upTo_in (by omega), z4 i hiN]
            exact ra_nat (by omega) hm31 hk
          have etg : (rnS (r : Int) (tnS (r : Int) (cdN r i : Int) (q : Int) (s : Int) (L (a + 2)) r) r).2.2.2 = (tgN r (cdN r i) q s : Int) := by
            rw [(rn_nm _ _ r).1, tn_sw (g' := L (a + 2)) (by omega) (cl_lt hr (cd_mem hiN)) hq3 lr lr]
            exact tg_nat (by omega) hm31 hq3 lr
          rw [etg] at hc
          refine mk_okI (Ca.deep hc (by omega)) (IV_c hIV (by omega)) ((e 0 (by omega)).trans (q5.1 0 (by omega))) (fun Y hY hYJ => ?_)
          obtain ⟨_, ⟨m1, m2, m3⟩, g1, g2, g3⟩ := fm_IV hY
          obtain ⟨y1, y2, y3⟩ := yr Y (yL Y hYJ)
          rw [up2_a _ (by decide), Int.toNat_natCast] at y2
          obtain ⟨K, k1, k2, k3⟩ := sw_M (I := Y) (S := S1) (U := U) (F := L (a + 1)) (i := i) (q := q) (s := s) (IV_L hY).2.1 hr (show p < 4 by omega) (by omega) y1 y2 (fun i hi => by rw [y3 (i : Int) (by omega) (by omega), Int.toNat_natCast, e (a + 1) (by omega)]) (fun i hi => by rw [e (a + 1) (by omega)]; exact z4 i hi) hiN hq3 w6.2
          exact ⟨K, Ca.deep k1 (by omega), k2, k3⟩
        · simp only [if_neg w5] at hc
          refine mk_thrI ecN_0 (Ca.deep hc (by omega)) hIV ((e 0 (by omega)).trans (q5.1 0 (by omega))) (fun Y hY hYJ => ?_)
          obtain ⟨_, ⟨m1, m2, m3⟩, g1, g2, g3⟩ := fm_IV hY
          obtain ⟨y1, y2, y3⟩ := yr Y (yL Y hYJ)
          rw [up2_a _ (by decide)] at y2
          obtain ⟨K, k1, k2, k3⟩ := sw_N2 (I := Y) (S := exS S1) (U := U) (x1 := (p : Int)) (x2 := (i : Int)) (x3 := (q : Int)) (x4 := x4) (IV_L hY).2.1 (by omega) (by rw [y2]; omega) (by rw [y1]; omega) (by rw [m1, y2]; exact ⟨⟨w, by omega⟩, by omega⟩) (by
            rw [y1, y3 (i : Int) (by omega) (by omega), Int.toNat_natCast, z4 i hiN]
            exact fun z => w5 (hus.mpr z))
          exact ⟨_, K, Ca.deep k1 (by omega), k2, k3⟩
      · simp only [if_neg w4] at hc
        exact bad hc (by omega)
    · simp only [if_neg w2] at hc
      exact bad hc (by omega)
  · have nw : ∀ {Q : Prop}, (0 ≤ x1 ∧ x1 < I T 1) → Q := fun q => absurd (show 0 ≤ x1 ∧ x1 < (P : Int) by omega) w
    have hc := c_X11_switched (d := 0) (I := I) (S := S) (x1 := x1) (x2 := x2) (x3 := x3) (x4 := x4) (J1 := I) (S1 := S) (z1 := 0) l1 (fun q1 q2 => nw ⟨q1, q2⟩) (fun q => nw q) (fun q _ _ => nw q) (fun q _ _ _ => nw q) (fun q _ _ _ => nw q) (fun q _ _ _ => nw q) (fun q _ _ _ _ => nw q) (fun q _ _ _ _ => nw q) (fun q _ _ _ _ => nw q) (fun q => nw q) (fun q => nw q) (fun q => nw q)
    rw [e1] at hc
    simp only [if_neg w] at hc
    refine mk_thr0 h ecN_1 (Ca.deep hc (by omega)) fR_refl (fun Y hY hYJ => ?_)
    obtain ⟨_, ⟨m1, m2, m3⟩, g1, g2, g3⟩ := fm_IV hY
    exact ⟨_, _, Ca.deep (sw_N1 (IV_L hY).2.1 (by omega) (by rw [m1]; exact fun z => w z.1.1)) (by omega), up2_same _ _ _ _, fR_00⟩
end
end
