/-! ===== calls that need a ring ===== -/
noncomputable section
section
variable {d : Nat} {I J K X Y Z : Nat → Nat → Int} {S S' S1 : PS} {c T U n P R N A a2 p s r a : Nat} {dg b : Int}
theorem rf_fQ (h : rfF I S J S1) : fQ U I J := ⟨fun a h1 _ _ _ _ => h.1 a h1, fun k _ => by rw [h.1 156 (by decide)], fun k _ => by rw [h.1 178 (by decide)]⟩
theorem rf_rfS (h : rfF I S J S1) : rfS S S1 := h.2
theorem rf_C (h : iC I) (g : rfF I S J S1) : iC J := iC_e h (g.1 122 (by decide)) (g.1 123 (by decide))
theorem IV_C (h : IV c T U n P R N I S) : iC I := h.2.2.2.2.2.2.2.2.2.1
theorem ln_96 (hq : r = 5 ∨ r = 6 ∨ r = 7) : lnC r ≤ 91 := by rcases hq with h | h | h <;> subst h <;> decide
theorem rg_IV (h : IV c T U n P R N I S) (hp : p < P) : ∃ (r a : Nat) (J : Nat → Nat → Int) (S1 : PS), (r = 5 ∨ r = 6 ∨ r = 7) ∧ Ca 33 mX11_ringOf [vR (some (21, 0, 31)), vR (some (14, 0, T + 7 + 9 * p))] (I, S) (.inl (some (vR (some (16, 0, a))))) (J, S1) ∧ (192 ≤ a ∧ rngO J S1 a r) ∧ rgI J S1 ∧ rfF I S J S1 ∧ LyX11 S1 T U ∧ (I (T + 7 + 9 * p) 3 = (r : Int) ∧ I 159 (20 * p + 9) = (r : Int) ∧ tbM I p r (I 159 (20 * p + 1)).toNat) ∧ S1.1 120 (r - 5) = some (16, 0, a) := by
  obtain ⟨l1, l2, hT⟩ := IV_L h
  obtain ⟨g1, r, s, g2, g3, g4, g5⟩ := (IV_P h).2.2.2 p hp
  obtain ⟨q1, q2, q3, q4⟩ := IV_G h
  obtain ⟨H, s', r', cc, e1, e2, e3, e4⟩ := id g1
  have hP4 := (IV_P h).1
  have hr : r = 5 ∨ r = 6 ∨ r = 7 := by omega
  obtain ⟨a, J, S1, a1, ⟨a2, a3, a6⟩, a4, a5⟩ := ro_C (d := 23) (A := T + 7 + 9 * p) hr g2 (ly_X11_4 l1) (fun no j a b => (q2 no j a b).1) q1
  exact ⟨r, a, J, S1, hr, a1, ⟨a2, a3⟩, a4, a5, LyX11_of l1 a5.2.1 (by omega) (by omega) (by omega) (by omega), ⟨g2, by omega, by rw [show (I 159 (20 * p + 1)).toNat = s by omega]; exact g4⟩, a6⟩

/-- the ring's words -/
theorem rgO_z {S : PS} (h : rngO J S a r) : LyX6 S a ∧ J a 0 = (r : Int) ∧ J a 1 = (lnC r : Int) ∧ ∀ i, i < lnC r → J (a + 1) i = (cdN r i : Int) := ⟨h.1, h.2.1, h.2.2.1, h.2.2.2.2.1⟩
theorem rf_Y (h : rfF I S J S1) (hY : ∀ a, a ≠ 191 → Y a = J a) {b : Nat} (hb : b < 191) : Y b = I b := by rw [hY b (by omega), h.1 b (by omega)]
theorem cdI_le {r i : Nat} (hr : r = 5 ∨ r = 6 ∨ r = 7) (hi : i < lnC r) : 0 ≤ (cdN r i : Int) ∧ cdN r i < 16384 := by
  have := cd_mem hi
  refine ⟨by omega, ?_⟩
  have hh : (∀ m ∈ clN 5, m < 16384) ∧ (∀ m ∈ clN 6, m < 16384) ∧ ∀ m ∈ clN 7, m < 16384 := by decide +kernel
  rcases hr with e | e | e <;> subst e
  · exact hh.1 _ this
  · exact hh.2.1 _ this
  · exact hh.2.2 _ this
theorem pu_colour {x1 x2 x3 : Int} (h : IV c T U n P R N I S) : outC c mX11_colour mX12_colour ecI [vI x1, vI x2, vI x3] I S := by
  obtain ⟨l1, l2, hT⟩ := IV_L h
  obtain ⟨⟨b1, b2, b3⟩, ⟨e1, e2, e3⟩, f1, f2, f3⟩ := fc_IV h
  by_cases w : 0 ≤ x1 ∧ x1 < (P : Int)
  · obtain ⟨p, hp⟩ : ∃ p : Nat, x1 = (p : Int) := ⟨x1.toNat, by omega⟩
    have hpP : p < P := by omega
    subst hp
    obtain ⟨r, a, J, S1, hr, q1, ⟨q2, q3⟩, q4, q5, q6, ⟨q7, q8, q9⟩, q10⟩ := rg_IV h hpP
    obtain ⟨z1, z2, z3, z4⟩ := rgO_z q3
    have hln := ln_96 hr
    have mm : ∀ (Y : Nat → Nat → Int) (S' : PS), (∀ a, a ≠ 191 → Y a = J a) → IV (c + 1) T U n P R N Y S' → Ca 3 mX12_colour [vR (some (22, 0, 156)), vI (p : Int), vI x2, vI x3] (Y, S') _ _ := fun Y S' hYJ hY => by
      obtain ⟨_, ⟨m1, m2, m3⟩, g1, g2, g3⟩ := fm_IV hY
      have y1 : Y 159 ((20 * (p : Int)) + 9).toNat = (r : Int) := by rw [rf_Y q5 hYJ (by decide), show ((20 * (p : Int)) + 9).toNat = 20 * p + 9 by omega]; exact q8
      have y2 : (up2 Y 156 0 0) 167 (p : Int).toNat = (lnC r : Int) := by rw [up2_a _ (by decide), rf_Y q5 hYJ (by decide), Int.toNat_natCast]; exact q9.1
      refine (fun hm => ?m2) (c_X12_colour (d := 0) (I := Y) (S := S') (x1 := (p : Int)) (x2 := x2) (x3 := x3) (IV_L hY).2.1 ?_ ?_ ?_ ?_ ?_ ?_ ?_ ?_)
      case m2 =>
        rw [m1, y1, y2] at hm
        exact hm
      all_goals (intros; first | omega | (rw [y2] at *; omega) | skip)
    refine (fun hc => ?m1) (c_X11_colour (d := 10) (I := I) (S := S) (x1 := (p : Int)) (x2 := x2) (x3 := x3) (J1 := J) (S1 := S1) (z1 := a) l1 ?_ ?_ ?_ ?_ ?_ ?_ (fun _ => by rw [Int.toNat_natCast]; exact q1) (fun _ => q6) (fun _ => z1))
    case m1 =>
      rw [e1, z2, z3] at hc
      simp only [if_pos w] at hc
      have bad : Ca 34 mX11_colour [vR (some (21, 0, 31)), vI (p : Int), vI x2, vI x3] (I, S) (.inr 1) (J, exS S1) → (¬((0 ≤ x2 ∧ x2 < (lnC r : Int)) ∧ 0 ≤ x3 ∧ x3 < (r : Int))) → outC c mX11_colour mX12_colour ecI [vI (p : Int), vI x2, vI x3] I S := fun hc w2 => by
        refine mk_thr h (ec := ecI) (by decide) (Ca.deep hc (by omega)) (rf_fQ q5) (rf_C (IV_C h) q5) q4 (rf_rfS q5) (fun Y hY hYJ => ?_)
        have hm := mm Y _ hYJ hY
        by_cases w3 : 0 ≤ x2 ∧ x2 < (lnC r : Int)
        · simp only [if_pos (show (0 ≤ (p : Int) ∧ (p : Int) < (P : Int)) ∧ 0 ≤ x2 ∧ x2 < (lnC r : Int) from ⟨w, w3⟩), if_neg (show ¬(0 ≤ x3 ∧ x3 < (r : Int)) from fun q => w2 ⟨w3, q⟩)] at hm
          exact ⟨_, _, Ca.deep hm (by omega), up2_same _ _ _ _, fR_00⟩
        · simp only [if_neg (show ¬((0 ≤ (p : Int) ∧ (p : Int) < (P : Int)) ∧ 0 ≤ x2 ∧ x2 < (lnC r : Int)) from fun q => w3 q.2)] at hm
          exact ⟨_, _, Ca.deep hm (by omega), up2_same _ _ _ _, fR_00⟩
      by_cases w2 : 0 ≤ x2 ∧ x2 < (lnC r : Int)
      · simp only [if_pos w2] at hc
        by_cases w3 : x3 < 0
        · simp only [if_pos w3] at hc
          exact bad hc (by omega)
        · by_cases w4 : x3 < (r : Int)
          · simp only [if_neg w3, if_pos w4] at hc
            refine mk_ok h (Ca.deep hc (by omega)) (rf_fQ q5) (rf_C (IV_C h) q5) q4 (rf_rfS q5) (fun Y hY hYJ => ?_)
            have hm := mm Y _ hYJ hY
            simp only [if_pos (show (0 ≤ (p : Int) ∧ (p : Int) < (P : Int)) ∧ 0 ≤ x2 ∧ x2 < (lnC r : Int) from ⟨w, w2⟩), if_pos (show 0 ≤ x3 ∧ x3 < (r : Int) by omega)] at hm
            have y3 : Y 168 ((96 * (p : Int)) + x2).toNat = J (a + 1) x2.toNat := by
              rw [rf_Y q5 hYJ (by decide), z4 x2.toNat (by omega), show ((96 * (p : Int)) + x2).toNat = 96 * p + x2.toNat by omega]
              exact q9.2.1 x2.toNat (by omega)
            rw [y3] at hm
            exact ⟨_, Ca.deep hm (by omega), up2_same _ _ _ _, fR_0⟩
          · simp only [if_neg w3, if_neg w4] at hc
            exact bad hc (by omega)
      · simp only [if_neg w2] at hc
        exact bad hc (by omega)
    all_goals (intros; first | omega | (rw [z2] at *; omega) | (rw [z3] at *; omega) | skip)
  · refine (fun hc => ?m1) (c_X11_colour (d := 0) (I := I) (S := S) (x1 := x1) (x2 := x2) (x3 := x3) (J1 := I) (S1 := S) (z1 := 0) l1 ?_ ?_ ?_ ?_ ?_ ?_ (fun q => absurd (show 0 ≤ x1 ∧ x1 < (P : Int) by omega) w) (fun q => absurd (show 0 ≤ x1 ∧ x1 < (P : Int) by omega) w) (fun q => absurd (show 0 ≤ x1 ∧ x1 < (P : Int) by omega) w))
    case m1 =>
      rw [e1] at hc
      simp only [if_neg w] at hc
      refine mk_thr0 h (ec := ecI) (by decide) (Ca.deep hc (by omega)) fR_refl (fun Y hY hYJ => ?_)
      obtain ⟨_, ⟨m1, m2, m3⟩, g1, g2, g3⟩ := fm_IV hY
      refine (fun hm => ?m2) (c_X12_colour (d := 0) (I := Y) (S := exS S) (x1 := x1) (x2 := x2) (x3 := x3) (IV_L hY).2.1 ?_ ?_ ?_ ?_ ?_ ?_ ?_ ?_)
      case m2 =>
        rw [m1] at hm
        simp only [if_neg (show ¬((0 ≤ x1 ∧ x1 < (P : Int)) ∧ 0 ≤ x2 ∧ x2 < up2 Y 156 0 0 167 x1.toNat) from fun q => w q.1)] at hm
        exact ⟨_, _, Ca.deep hm (by omega), up2_same _ _ _ _, fR_00⟩
      all_goals (intros; first | omega | skip)
    all_goals (intros; first | omega | skip)
end
end
