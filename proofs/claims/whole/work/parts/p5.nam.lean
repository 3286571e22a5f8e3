/-! ===== named, both sides ===== -/
noncomputable section
section
variable {d : Nat} {I J K X Y Z : Nat → Nat → Int} {S S' S1 : PS} {c T U n P R N A a2 p s r a : Nat} {dg b : Int}
theorem pu_named {x1 x2 : Int} (h : IV c T U n P R N I S) (hx : x2 ≤ 2147483647) : outC c mX11_named mX12_named ecI [vI x1, vI x2] I S := by
  obtain ⟨l1, l2, hT⟩ := IV_L h
  obtain ⟨⟨b1, b2, b3⟩, ⟨e1, e2, e3⟩, f1, f2, f3⟩ := fc_IV h
  by_cases w : 0 ≤ x1 ∧ x1 < (P : Int)
  · obtain ⟨p, hp⟩ : ∃ p : Nat, x1 = (p : Int) := ⟨x1.toNat, by omega⟩
    have hpP : p < P := by omega
    subst hp
    obtain ⟨r, a, J, S1, hr, q1, ⟨q2, q3⟩, q4, q5, q6, ⟨q7, q8, q9⟩, q10⟩ := rg_IV h hpP
    obtain ⟨z1, z2, z3, z4⟩ := rgO_z q3
    have hln := ln_96 hr
    have hj := IV_rf h q5 q4
    have yr : ∀ (Y : Nat → Nat → Int), (∀ b, b < 191 → Y b = I b) → Y 159 ((20 * (p : Int)) + 9).toNat = (r : Int) ∧ (up2 Y 156 0 0) 167 (p : Int).toNat = (lnC r : Int) ∧ ∀ x : Int, 0 ≤ x → x < (lnC r : Int) → Y 168 ((96 * (p : Int)) + x).toNat = J (a + 1) x.toNat := fun Y hYI =>
      ⟨by rw [hYI 159 (by decide), show ((20 * (p : Int)) + 9).toNat = 20 * p + 9 by omega]; exact q8, by rw [up2_a _ (by decide), hYI 167 (by decide), Int.toNat_natCast]; exact q9.1, fun x h0 h1 => by
        rw [hYI 168 (by decide), z4 x.toNat (by omega), show ((96 * (p : Int)) + x).toNat = 96 * p + x.toNat by omega]
        exact q9.2.1 x.toNat (by omega)⟩
    have hsort : ∀ i j : Nat, i < j → (j : Int) < J a 1 → J (a + 1) i < J (a + 1) j := fun i j hij hj => by
      rw [z3] at hj
      rw [z4 i (by omega), z4 j (by omega)]
      exact Int.ofNat_lt.mpr (cd_lt hr hij (by omega))
    have hc := c_X11_named (d := 10) (I := I) (S := S) (x1 := (p : Int)) (x2 := x2) (J1 := J) (S1 := S1) (z1 := a) l1 (fun _ _ => by omega) (fun _ => by omega) (fun _ => by rw [z2]; omega) (fun _ => hx) (fun _ _ => by rw [z3]; omega) (fun _ _ => hsort) (fun _ => by rw [Int.toNat_natCast]; exact q1) (fun _ => q6) (fun _ => z1) (by rw [e1]; exact w)
    rw [z2, z3, Int.toNat_natCast, Int.toNat_natCast] at hc
    refine mk_ok h (Ca.deep hc (by omega)) (rf_fQ q5) (rf_C (IV_C h) q5) q4 (rf_rfS q5) (fun Y hY hYJ => ?_)
    obtain ⟨_, ⟨m1, m2, m3⟩, g1, g2, g3⟩ := fm_IV hY
    obtain ⟨y1, y2, y3⟩ := yr Y (fun b hb => rf_Y q5 hYJ hb)
    rw [up2_a _ (by decide), Int.toNat_natCast] at y2
    obtain ⟨K, k1, k2, k3⟩ := nam_M (I := Y) (S := S1) (U := U) (x := x2) (F := J (a + 1)) (IV_L hY).2.1 hr (show p < 4 by omega) (by omega) y1 y2 (fun i hi => by rw [y3 (i : Int) (by omega) (by omega), Int.toNat_natCast]) z4 hx
    exact ⟨K, Ca.deep k1 (by omega), k2, k3⟩
  · have nw : ∀ {Q : Prop}, (0 ≤ x1 ∧ x1 < I T 1) → Q := fun q => absurd (show 0 ≤ x1 ∧ x1 < (P : Int) by omega) w
    have hc := c_X11_named_t (d := 0) (I := I) (S := S) (x1 := x1) (x2 := x2) (J1 := I) (S1 := S) (z1 := 0) l1 (fun q1 q2 => nw ⟨q1, q2⟩) (fun q => nw q) (fun q => nw q) (fun q => nw q) (fun q _ => nw q) (fun q _ => nw q) (fun q => nw q) (fun q => nw q) (fun q => nw q) (fun q => nw q)
    refine mk_thr0 h (ec := ecI) (by decide) (Ca.deep hc (by omega)) fR_refl (fun Y hY hYJ => ?_)
    obtain ⟨_, ⟨m1, m2, m3⟩, g1, g2, g3⟩ := fm_IV hY
    have hm := w_X12_named_0 (d := 0) (I := Y) (S := exS S) (x1 := x1) (x2 := x2) (v := 0) (h1 := (up2 (up2 Y 156 0 0) 156 0 1, exS S)) (IV_L hY).2.1 (fun q => absurd (show 0 ≤ x1 ∧ x1 < (P : Int) by omega) w) (fun _ => rfl) (e1 := fun _ => rfl)
    exact ⟨_, _, Ca.deep hm (by omega), up2_same _ _ _ _, fR_00⟩
end
end
