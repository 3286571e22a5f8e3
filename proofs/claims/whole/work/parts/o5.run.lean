/-! ===== calls that need a ring: runs, extend ===== -/
noncomputable section
section
variable {d : Nat} {I J K X Y Z : Nat → Nat → Int} {S S' S1 : PS} {c T U n P R N A a2 p s r a : Nat} {dg b : Int}
/-- a split changes a ring's own scratch alone -/
theorem rgI_a2 {i0 : Nat} (h : rgI I S) (hi : i0 < 3) (ha : S.1 120 i0 = some (16, 0, a)) (hJ : ∀ b, b ≠ a + 2 → J b = I b) : rgI J S := by
  have h0 : ∃ i1, i1 < 3 ∧ S.1 120 i1 = some (16, 0, a) := ⟨i0, hi, ha⟩
  have a192 : 192 ≤ a := by
    rcases h.2.1 i0 hi with g | ⟨b, b1, b2, b3, b4⟩
    · exact absurd (g.symm.trans ha) (by simp)
    · have e : a = b := (Prod.mk.inj (Prod.mk.inj (Option.some.inj (ha.symm.trans b1))).2).2
      omega
  refine ⟨h.1, fun i hi' => (h.2.1 i hi').elim Or.inl (fun ⟨b, b1, b2, b3, b4⟩ => Or.inr ⟨b, b1, b2, b3, ?_⟩), h.2.2⟩
  by_cases e : i = i0
  · subst e
    have e : b = a := (Prod.mk.inj (Prod.mk.inj (Option.some.inj (b1.symm.trans ha))).2).2
    subst e
    obtain ⟨h1, h2, h3, h4, h5, ⟨h6, h7⟩, h8⟩ := b4
    refine ⟨h1, by rw [hJ b (by omega)]; exact h2, by rw [hJ b (by omega)]; exact h3, h4, by rw [hJ (b + 1) (by omega)]; exact h5, ⟨fun no j q1 q2 => by rw [hJ no (by omega)]; exact h6 no j q1 q2, by rw [hJ (b + 3) (by omega), hJ (b + 4) (by omega)]; exact h7⟩, by rw [hJ (b + 4) (by omega)]; exact h8⟩
  · have := h.2.2 i i0 b a hi' hi e b1 ha
    exact rngO_of b4 b2 (fun z z1 z2 => hJ z (by omega)) (fun z z1 z2 => hJ z (by omega)) rfl rfl
theorem cd_0 {r i : Nat} (hr : r = 5 ∨ r = 6 ∨ r = 7) (hi : i < lnC r) : cAt (r : Int) (cdN r i : Int) 0 = 0 := by
  have h := cAt_nat (r := r) (m := cdN r i) (k := 0) (by omega) (by have := (cdI_le hr hi).2; omega) (by omega)
  rw [(chkM_all hr (cd_mem hi)).1] at h
  exact h
theorem fcN_v : fcN 1 = 1 ∧ fcN 2 = 1 ∧ fcN 4 = 2 ∧ fcN 6 = 5 := by decide +kernel
theorem rnC_v {r i : Nat} {q : Int} (hr : r = 5 ∨ r = 6 ∨ r = 7) (hi : i < lnC r) (hq : 0 ≤ q ∧ q ≤ 2) : (rnC (r : Int) (cdN r i : Int) q = 1 ∨ rnC (r : Int) (cdN r i : Int) q = 2 ∨ rnC (r : Int) (cdN r i : Int) q = 4 ∨ rnC (r : Int) (cdN r i : Int) q = 6) ∧ fcN (rnC (r : Int) (cdN r i : Int) q) = (if 2 < rnC (r : Int) (cdN r i : Int) q then (if 4 < rnC (r : Int) (cdN r i : Int) q then (5 : Int) else 2) else 1) := by
  obtain ⟨k, hk⟩ : ∃ k : Nat, q = (k : Int) := ⟨q.toNat, by omega⟩
  subst hk
  have h := rc_cases hr (cd_mem hi) (show k < 3 by omega)
  rw [rc_nat (by omega) (by have := (cdI_le hr hi).2; omega)]
  obtain ⟨f1, f2, f4, f6⟩ := fcN_v
  rcases h with h | h | h | h <;> rw [h] <;> refine ⟨by decide, ?_⟩
  · exact f1
  · exact f2
  · exact f4
  · exact f6
/-- the reference's runs -/
theorem rn_M {x1 x2 x3 x4 : Int} (hl0 : LyX12 S) (w : (0 ≤ x1 ∧ x1 < I 156 13) ∧ 0 ≤ x2 ∧ x2 < I 167 x1.toNat) (w3 : 0 ≤ x3 ∧ x3 ≤ 2) (w4 : 0 ≤ x4 ∧ x4 ≤ 1) (h4 : I 156 13 ≤ 4) (hm : I 167 x1.toNat ≤ 96) (hr : 1 ≤ I 159 ((20 * x1) + 9).toNat ∧ I 159 ((20 * x1) + 9).toNat ≤ 7) : ∃ K, Ca 5 mX12_runs [vR (some (22, 0, 156)), vI x1, vI x2, vI x3, vI x4] (I, S) (.inl (some (vI (if x4 ≠ 0 then fcN (rnC (I 159 ((20 * x1) + 9).toNat) (I 168 ((96 * x1) + x2).toNat) x3) else rnC (I 159 ((20 * x1) + 9).toNat) (I 168 ((96 * x1) + x2).toNat) x3)))) (K, S) ∧ K 156 0 = 0 ∧ fR U I K := by
  have w' : (0 ≤ x1 ∧ x1 < I 156 13) ∧ 0 ≤ x2 ∧ x2 < (up2 I 156 0 0) 167 x1.toNat := by rw [up2_a _ (by decide)]; exact w
  obtain ⟨L, hL⟩ : ∃ L, L = lrI (up2 I 156 0 0) (I 159 ((20 * x1) + 9).toNat) (I 168 ((96 * x1) + x2).toNat) x3 := ⟨_, rfl⟩
  have rn := rnC_in (code := I 168 ((96 * x1) + x2).toNat) (q := x3) hr
  have l37 : L 156 37 = rnC (I 159 ((20 * x1) + 9).toNat) (I 168 ((96 * x1) + x2).toNat) x3 := by
    rw [hL]
    unfold lrI
    rw [up1_o _ (by decide), up2_same]
  have lf : fR U I L := by
    rw [hL]
    unfold lrI
    refine fR_trans (fR_trans (fR_0 (v := 0)) (fR_156 (k := 37) (v := rnC (I 159 ((20 * x1) + 9).toNat) (I 168 ((96 * x1) + x2).toNat) x3) (by unfold cr; omega))) (fR_scr (fun a ha => up1_o _ (fun e => ha ⟨by rw [e]; unfold scr; omega, by omega⟩)))
  have l0 : L 156 0 = 0 := by
    rw [hL]
    unfold lrI
    rw [up1_o _ (by decide), up2_k _ (by decide), up2_same]
  obtain ⟨J, j1, j2⟩ := fc_M (d := 1) (I := L) (S := S) hl0 (by rw [l37]; omega)
  rw [l37] at j1
  by_cases q : x4 = 0
  · rw [if_neg (fun z => z q)]
    refine ⟨L, ?_, l0, lf⟩
    refine (fun hm => ?m2) (w_X12_runs_0 (d := 0) (I := I) (S := S) (z1 := 0) (J1 := I) (v := rnC (I 159 ((20 * x1) + 9).toNat) (I 168 ((96 * x1) + x2).toNat) x3) (h1 := (L, S)) (x1 := x1) (x2 := x2) (x3 := x3) (x4 := x4) hl0 (fun _ _ _ q' => absurd q q') (r1 := fun _ _ _ q' => absurd q q') (e1 := fun _ _ _ q' => absurd q q') (r2 := fun _ _ _ _ => by rw [← hL]; exact l37) (e2 := fun _ _ _ _ => by rw [← hL]) (r3 := fun _ _ q' => absurd w4 q') (e3 := fun _ _ q' => absurd w4 q') (r4 := fun _ q' => absurd w3 q') (e4 := fun _ q' => absurd w3 q') (r5 := fun q' => absurd w' q') (e5 := fun q' => absurd w' q') (v1 := fun _ _ => by omega) (v2 := fun _ _ _ => by omega) (v3 := fun _ _ _ => by omega) (v4 := fun _ _ _ => by omega) (v5 := fun _ _ _ => by omega) (v6 := fun _ _ _ => hr) (v7 := fun _ _ _ => w3))
    case m2 => exact hm
  · rw [if_pos q]
    refine ⟨J, ?_, by rw [j2 156 (by decide)]; exact l0, fR_trans lf (fR_scr (fun a ha => j2 a (fun e => ha ⟨by rw [e]; unfold scr; omega, by omega⟩)))⟩
    exact w_X12_runs_0 (d := 0) (I := I) (S := S) (J1 := J) (h1 := (J, S)) (x1 := x1) (x2 := x2) (x3 := x3) (x4 := x4) hl0 (fun _ _ _ _ => by rw [← hL]; exact j1) (r1 := fun _ _ _ _ => rfl) (e1 := fun _ _ _ _ => rfl) (r2 := fun _ _ _ q' => absurd q' q) (e2 := fun _ _ _ q' => absurd q' q) (r3 := fun _ _ q' => absurd w4 q') (e3 := fun _ _ q' => absurd w4 q') (r4 := fun _ q' => absurd w3 q') (e4 := fun _ q' => absurd w3 q') (r5 := fun q' => absurd w' q') (e5 := fun q' => absurd w' q') (v1 := fun _ _ => by omega) (v2 := fun _ _ _ => by omega) (v3 := fun _ _ _ => by omega) (v4 := fun _ _ _ => by omega) (v5 := fun _ _ _ => by omega) (v6 := fun _ _ _ => hr) (v7 := fun _ _ _ => w3)
theorem rn_N {x1 x2 x3 x4 : Int} (hl0 : LyX12 S) (h4 : I 156 13 ≤ 4) (w : ¬(((0 ≤ x1 ∧ x1 < I 156 13) ∧ 0 ≤ x2 ∧ x2 < I 167 x1.toNat) ∧ (0 ≤ x3 ∧ x3 ≤ 2) ∧ 0 ≤ x4 ∧ x4 ≤ 1)) : Ca 5 mX12_runs [vR (some (22, 0, 156)), vI x1, vI x2, vI x3, vI x4] (I, S) (.inl (some (vI 0))) (up2 (up2 I 156 0 0) 156 0 1, S) := by
  have e : (up2 I 156 0 0) 167 x1.toNat = I 167 x1.toNat := up2_a _ (by decide)
  have n : ∀ {G : Prop}, ((0 ≤ x1 ∧ x1 < I 156 13) ∧ 0 ≤ x2 ∧ x2 < (up2 I 156 0 0) 167 x1.toNat) → (0 ≤ x3 ∧ x3 ≤ 2) → (0 ≤ x4 ∧ x4 ≤ 1) → G := fun q1 q2 q3 => absurd (show ((0 ≤ x1 ∧ x1 < I 156 13) ∧ 0 ≤ x2 ∧ x2 < I 167 x1.toNat) ∧ (0 ≤ x3 ∧ x3 ≤ 2) ∧ 0 ≤ x4 ∧ x4 ≤ 1 by rw [← e]; exact ⟨q1, q2, q3⟩) w
  exact w_X12_runs_0 (d := 0) (I := I) (S := S) (z1 := 0) (J1 := I) (x1 := x1) (x2 := x2) (x3 := x3) (x4 := x4) hl0 (fun q1 q2 q3 _ => n q1 q2 q3) (r1 := fun q1 q2 q3 _ => n q1 q2 q3) (e1 := fun q1 q2 q3 _ => n q1 q2 q3) (r2 := fun q1 q2 q3 _ => n q1 q2 q3) (e2 := fun q1 q2 q3 _ => n q1 q2 q3) (r3 := fun _ _ _ => rfl) (e3 := fun _ _ _ => rfl) (r4 := fun _ _ => rfl) (e4 := fun _ _ => rfl) (r5 := fun _ => rfl) (e5 := fun _ => rfl) (v1 := fun _ _ => by omega) (v2 := fun q1 q2 q3 => n q1 q2 q3) (v3 := fun q1 q2 q3 => n q1 q2 q3) (v4 := fun q1 q2 q3 => n q1 q2 q3) (v5 := fun q1 q2 q3 => n q1 q2 q3) (v6 := fun q1 q2 q3 => n q1 q2 q3) (v7 := fun q1 q2 q3 => n q1 q2 q3)
theorem pu_runs {x1 x2 x3 x4 : Int} (h : IV c T U n P R N I S) : outC c mX11_runs mX12_runs ecI [vI x1, vI x2, vI x3, vI x4] I S := by
  obtain ⟨l1, l2, hT⟩ := IV_L h
  obtain ⟨⟨b1, b2, b3⟩, ⟨e1, e2, e3⟩, f1, f2, f3⟩ := fc_IV h
  by_cases w : 0 ≤ x1 ∧ x1 < (P : Int)
  · obtain ⟨p, hp⟩ : ∃ p : Nat, x1 = (p : Int) := ⟨x1.toNat, by omega⟩
    have hpP : p < P := by omega
    subst hp
    obtain ⟨r, a, J, S1, hr, q1, ⟨q2, q3⟩, q4, q5, q6, ⟨q7, q8, q9⟩, q10⟩ := rg_IV h hpP
    obtain ⟨z1, z2, z3, z4⟩ := rgO_z q3
    have hln := ln_96 hr
    have hj := IV_rf h q5 q4
    have yr : ∀ (Y : Nat → Nat → Int), (∀ b, b < 191 → Y b = I b) → Y 159 ((20 * (p : Int)) + 9).toNat = (r : Int) ∧ (up2 Y 156 0 0) 167 (p : Int).toNat = (lnC r : Int) ∧ ∀ x : Int, 0 ≤ x → x < (lnC r : Int) → Y 168 ((96 * (p : Int)) + x).toNat = J (a + 1) x.toNat := fun Y hYI =>
      ⟨by rw [hYI 159 (by decide), show ((20 * (p : Int)) + 9).toNat = 20 * p + 9 by omega]; exact q8, by rw [up2_a _ (by decide), hYI 167 (by decide), Int.toNat_natCast]; exact q9.1, fun x h0 h1 => by
        rw [hYI 168 (by decide), z4 x.toNat (by omega), show ((96 * (p : Int)) + x).toNat = 96 * p + x.toNat by omega]
        exact q9.2.1 x.toNat (by omega)⟩
    have sp : fQ U J (spI J a (J a 0) (J (a + 1) x2.toNat) x3) ∧ iC (spI J a (J a 0) (J (a + 1) x2.toNat) x3) ∧ rgI (spI J a (J a 0) (J (a + 1) x2.toNat) x3) S1 := by
      have e : ∀ b, b ≠ a + 2 → spI J a (J a 0) (J (a + 1) x2.toNat) x3 b = J b := fun b hb => up1_o _ hb
      exact ⟨⟨fun b h1 _ _ _ _ => e b (by omega), fun k _ => by rw [e 156 (by omega)], fun k _ => by rw [e 178 (by omega)]⟩, iC_e (IV_C hj) (e 122 (by omega)) (e 123 (by omega)), rgI_a2 q4 (show r - 5 < 3 by omega) q10 e⟩
    refine (fun hc => ?m1) (c_X11_runs (d := 10) (I := I) (S := S) (x1 := (p : Int)) (x2 := x2) (x3 := x3) (x4 := x4) (J1 := J) (S1 := S1) (z1 := a) l1 ?_ ?_ ?_ ?_ ?_ ?_ (fun _ => by rw [Int.toNat_natCast]; exact q1) (fun _ => q6) (fun _ => z1))
    case m1 =>
      rw [e1, z3] at hc
      simp only [if_pos w] at hc
      have bad : Ca 34 mX11_runs [vR (some (21, 0, 31)), vI (p : Int), vI x2, vI x3, vI x4] (I, S) (.inr 1) (J, exS S1) → (¬((0 ≤ x2 ∧ x2 < (lnC r : Int)) ∧ (0 ≤ x3 ∧ x3 ≤ 2) ∧ 0 ≤ x4 ∧ x4 ≤ 1)) → outC c mX11_runs mX12_runs ecI [vI (p : Int), vI x2, vI x3, vI x4] I S := fun hc w2 => by
        refine mk_thr h (ec := ecI) (by decide) (Ca.deep hc (by omega)) (rf_fQ q5) (rf_C (IV_C h) q5) q4 (rf_rfS q5) (fun Y hY hYJ => ?_)
        obtain ⟨_, ⟨m1, m2, m3⟩, g1, g2, g3⟩ := fm_IV hY
        obtain ⟨y1, y2, y3⟩ := yr Y (fun b hb => rf_Y q5 hYJ hb)
        rw [up2_a _ (by decide)] at y2
        exact ⟨_, _, Ca.deep (rn_N (IV_L hY).2.1 (by omega) (by rw [y2]; exact fun z => w2 ⟨z.1.2, z.2⟩)) (by omega), up2_same _ _ _ _, fR_00⟩
      by_cases w2 : 0 ≤ x2 ∧ x2 < (lnC r : Int)
      · simp only [if_pos w2] at hc
        by_cases w3 : x3 < 0
        · simp only [if_pos w3] at hc
          exact bad hc (by omega)
        simp only [if_neg w3] at hc
        by_cases w4 : 3 ≤ x3
        · simp only [if_pos w4] at hc
          exact bad hc (by omega)
        simp only [if_neg w4] at hc
        by_cases w5 : x4 < 0
        · simp only [if_pos w5] at hc
          exact bad hc (by omega)
        simp only [if_neg w5] at hc
        by_cases w6 : x4 ≤ 1
        · simp only [if_pos w6] at hc
          refine mk_okI (Ca.deep hc (by omega)) (IV_c (IV_0 hj sp.1 sp.2.1 sp.2.2 rfS_refl) (by omega)) ((up1_o _ (by omega)).trans (q5.1 0 (by omega))) (fun Y hY hYJ => ?_)
          obtain ⟨_, ⟨m1, m2, m3⟩, g1, g2, g3⟩ := fm_IV hY
          obtain ⟨y1, y2, y3⟩ := yr Y (fun b hb => by rw [hYJ b (by omega)]; exact (up1_o _ (by omega)).trans (q5.1 b (by omega)))
          rw [up2_a _ (by decide)] at y2
          obtain ⟨K, k1, k2, k3⟩ := rn_M (I := Y) (S := S1) (U := U) (x1 := (p : Int)) (x2 := x2) (x3 := x3) (x4 := x4) (IV_L hY).2.1 (by rw [m1, y2]; exact ⟨w, w2⟩) (by omega) (by omega) (by omega) (by rw [y2]; omega) (by rw [y1]; omega)
          rw [y1, y3 x2 w2.1 w2.2] at k1
          have ev := (rnC_v (q := x3) hr (show x2.toNat < lnC r by omega) (by omega)).2
          rw [← z4 x2.toNat (by omega)] at ev
          rw [ev] at k1
          rw [z2]
          exact ⟨K, Ca.deep k1 (by omega), k2, k3⟩
        · simp only [if_neg w6] at hc
          exact bad hc (by omega)
      · simp only [if_neg w2] at hc
        exact bad hc (by omega)
    all_goals (intros; first | omega | (rw [z2] at *; omega) | (rw [z3] at *; omega) | (rw [z2, z4 x2.toNat (by rw [z3] at *; omega)]; exact cd_0 hr (by rw [z3] at *; omega)) | skip)
  · refine (fun hc => ?m1) (c_X11_runs (d := 0) (I := I) (S := S) (x1 := x1) (x2 := x2) (x3 := x3) (x4 := x4) (J1 := I) (S1 := S) (z1 := 0) l1 ?_ ?_ ?_ ?_ ?_ ?_ (fun q => absurd (show 0 ≤ x1 ∧ x1 < (P : Int) by omega) w) (fun q => absurd (show 0 ≤ x1 ∧ x1 < (P : Int) by omega) w) (fun q => absurd (show 0 ≤ x1 ∧ x1 < (P : Int) by omega) w))
    case m1 =>
      rw [e1] at hc
      simp only [if_neg w] at hc
      refine mk_thr0 h (ec := ecI) (by decide) (Ca.deep hc (by omega)) fR_refl (fun Y hY hYJ => ?_)
      obtain ⟨_, ⟨m1, m2, m3⟩, g1, g2, g3⟩ := fm_IV hY
      exact ⟨_, _, Ca.deep (rn_N (IV_L hY).2.1 (by omega) (by rw [m1]; exact fun z => w z.1.1)) (by omega), up2_same _ _ _ _, fR_00⟩
    all_goals (intros; first | omega | skip)
end
end
