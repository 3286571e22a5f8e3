/-! ===== calls that need a ring: level, extend, runs ===== -/
noncomputable section
section
variable {d : Nat} {I J K X Y Z : Nat → Nat → Int} {S S' S1 : PS} {c T U n P R N A a2 p s r a : Nat} {dg b : Int}
theorem pu_level {x1 x2 : Int} (h : IV c T U n P R N I S) : outC c mX11_level mX12_level ecI [vI x1, vI x2] I S := by
  obtain ⟨l1, l2, hT⟩ := IV_L h
  obtain ⟨⟨b1, b2, b3⟩, ⟨e1, e2, e3⟩, f1, f2, f3⟩ := fc_IV h
  by_cases w : 0 ≤ x1 ∧ x1 < (P : Int)
  · obtain ⟨p, hp⟩ : ∃ p : Nat, x1 = (p : Int) := ⟨x1.toNat, by omega⟩
    have hpP : p < P := by omega
    subst hp
    obtain ⟨r, a, J, S1, hr, q1, ⟨q2, q3⟩, q4, q5, q6, ⟨q7, q8, q9⟩, q10⟩ := rg_IV h hpP
    obtain ⟨z1, z2, z3, z4⟩ := rgO_z q3
    have hln := ln_96 hr
    have hj := IV_rf h q5 q4
    have yr : ∀ (Y : Nat → Nat → Int), (∀ b, b < 191 → Y b = I b) → Y 159 ((20 * (p : Int)) + 9).toNat = (r : Int) ∧ (up2 Y 156 0 0) 167 (p : Int).toNat = (lnC r : Int) ∧ ∀ x : Int, 0 ≤ x → x < (lnC r : Int) → Y 168 ((96 * (p : Int)) + x).toNat = J (a + 1) x.toNat := fun Y hYI =>
      ⟨by rw [hYI 159 (by decide), show ((20 * (p : Int)) + 9).toNat = 20 * p + 9 by omega]; exact q8, by rw [up2_a _ (by decide), hYI 167 (by decide), Int.toNat_natCast]; exact q9.1, fun x h0 h1 => by
        rw [hYI 168 (by decide), z4 x.toNat (by omega), show ((96 * (p : Int)) + x).toNat = 96 * p + x.toNat by omega]
        exact q9.2.1 x.toNat (by omega)⟩
    have mm : ∀ (Y : Nat → Nat → Int) (S' : PS), (∀ b, b < 191 → Y b = I b) → IV (c + 1) T U n P R N Y S' → Ca 3 mX12_level [vR (some (22, 0, 156)), vI (p : Int), vI x2] (Y, S') _ _ := fun Y S' hYI hY => by
      obtain ⟨_, ⟨m1, m2, m3⟩, g1, g2, g3⟩ := fm_IV hY
      obtain ⟨y1, y2, y3⟩ := yr Y hYI
      refine (fun hm => ?m2) (c_X12_level (d := 0) (I := Y) (S := S') (x1 := (p : Int)) (x2 := x2) (IV_L hY).2.1 ?_ ?_ ?_ ?_)
      case m2 =>
        rw [m1, y2] at hm
        exact hm
      all_goals (intros; first | omega | (rw [y2] at *; omega) | skip)
    obtain ⟨r', J2, S2, hr', t1, t2, t3, t4, t5, t6, t7⟩ := st_IV hj hpP
    have er : r' = r := by
      rw [q5.1 _ (by omega), q7] at t5
      omega
    subst er
    refine (fun hc => ?m1) (c_X11_level (d := 10) (I := I) (S := S) (x1 := (p : Int)) (x2 := x2) (J1 := J) (S1 := S1) (z1 := a) (J2 := J2) (S2 := S2) l1 ?_ ?_ ?_ ?_ (fun _ => by rw [Int.toNat_natCast]; exact q1) (fun _ => q6) (fun _ => z1) (fun _ _ => by rw [Int.toNat_natCast]; exact t1) (fun _ _ => t4))
    case m1 =>
      rw [e1, z3] at hc
      simp only [if_pos w] at hc
      by_cases w2 : 0 ≤ x2 ∧ x2 < (lnC r' : Int)
      · simp only [if_pos w2] at hc
        refine mk_okI (Ca.deep hc (by omega)) (IV_c t7 (by omega)) ((t3.1 0 (by omega) (by omega) (by omega) (by omega) (by omega) (by omega) (by omega)).trans (q5.1 0 (by omega))) (fun Y hY hYJ => ?_)
        have j2 : ∀ b, 120 ≤ b → b < 191 → Y b = I b := fun b h0 hb => by rw [hYJ b (by omega), t3.1 b (by omega) (by omega) (by omega) (by omega) (by omega) (by omega) (by omega), q5.1 b (by omega)]
        have y2 : (up2 Y 156 0 0) 167 (p : Int).toNat = (lnC r' : Int) := by rw [up2_a _ (by decide), j2 167 (by decide) (by decide), Int.toNat_natCast]; exact q9.1
        obtain ⟨_, ⟨m1, m2, m3⟩, g1, g2, g3⟩ := fm_IV hY
        refine (fun hm => ?m2) (c_X12_level (d := 0) (I := Y) (S := S2) (x1 := (p : Int)) (x2 := x2) (IV_L hY).2.1 ?_ ?_ ?_ ?_)
        case m2 =>
          rw [m1, y2] at hm
          simp only [if_pos (show (0 ≤ (p : Int) ∧ (p : Int) < (P : Int)) ∧ 0 ≤ x2 ∧ x2 < (lnC r' : Int) from ⟨w, w2⟩)] at hm
          have y3 : J2 ((T + 7 + 9 * (p : Int).toNat) + 5) x2.toNat = Y 171 ((96 * (p : Int)) + x2).toNat := by
            rw [Int.toNat_natCast, t2.2.1 x2.toNat (by omega), show ((96 * (p : Int)) + x2).toNat = 96 * p + x2.toNat by omega, hYJ 171 (by decide)]
          rw [y3]
          exact ⟨_, Ca.deep hm (by omega), up2_same _ _ _ _, fR_0⟩
        all_goals (intros; first | omega | (rw [y2] at *; omega) | skip)
      · simp only [if_neg w2] at hc
        refine mk_thr h (ec := ecI) (by decide) (Ca.deep hc (by omega)) (rf_fQ q5) (rf_C (IV_C h) q5) q4 (rf_rfS q5) (fun Y hY hYJ => ?_)
        have hm := mm Y _ (fun b hb => rf_Y q5 hYJ hb) hY
        simp only [if_neg (show ¬((0 ≤ (p : Int) ∧ (p : Int) < (P : Int)) ∧ 0 ≤ x2 ∧ x2 < (lnC r' : Int)) from fun q => w2 q.2)] at hm
        exact ⟨_, _, Ca.deep hm (by omega), up2_same _ _ _ _, fR_00⟩
    all_goals (intros; first | omega | (rw [z3] at *; omega) | skip)
  · refine (fun hc => ?m1) (c_X11_level (d := 0) (I := I) (S := S) (x1 := x1) (x2 := x2) (J1 := I) (S1 := S) (z1 := 0) (J2 := I) (S2 := S) l1 ?_ ?_ ?_ ?_ (fun q => absurd (show 0 ≤ x1 ∧ x1 < (P : Int) by omega) w) (fun q => absurd (show 0 ≤ x1 ∧ x1 < (P : Int) by omega) w) (fun q => absurd (show 0 ≤ x1 ∧ x1 < (P : Int) by omega) w) (fun q => absurd (show 0 ≤ x1 ∧ x1 < (P : Int) by omega) w) (fun q => absurd (show 0 ≤ x1 ∧ x1 < (P : Int) by omega) w))
    case m1 =>
      rw [e1] at hc
      simp only [if_neg w] at hc
      refine mk_thr0 h (ec := ecI) (by decide) (Ca.deep hc (by omega)) fR_refl (fun Y hY hYJ => ?_)
      obtain ⟨_, ⟨m1, m2, m3⟩, g1, g2, g3⟩ := fm_IV hY
      refine (fun hm => ?m2) (c_X12_level (d := 0) (I := Y) (S := exS S) (x1 := x1) (x2 := x2) (IV_L hY).2.1 ?_ ?_ ?_ ?_)
      case m2 =>
        rw [m1] at hm
        simp only [if_neg (show ¬((0 ≤ x1 ∧ x1 < (P : Int)) ∧ 0 ≤ x2 ∧ x2 < up2 Y 156 0 0 167 x1.toNat) from fun q => w q.1)] at hm
        exact ⟨_, _, Ca.deep hm (by omega), up2_same _ _ _ _, fR_00⟩
      all_goals (intros; first | omega | skip)
    all_goals (intros; first | omega | skip)
end
end
