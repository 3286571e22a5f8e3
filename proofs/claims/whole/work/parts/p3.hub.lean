/-! ===== a hub told, both sides ===== -/
noncomputable section
section
variable {d : Nat} {I J K X Y Z : Nat → Nat → Int} {S S' S1 S2 : PS} {c T U n P R N A a2 p s r a : Nat} {dg b : Int}
theorem pu_hub {x1 x2 x3 : Int} (h : IV c T U n P R N I S) : outC c mX11_hub mX12_hub ecN [vI x1, vI x2, vI x3] I S := by
  obtain ⟨l1, l2, hT⟩ := IV_L h
  obtain ⟨⟨b1, b2, b3⟩, ⟨e1, e2, e3⟩, f1, f2, f3⟩ := fc_IV h
  have mm : ∀ (Y : Nat → Nat → Int) (S' : PS), IV (c + 1) T U n P R N Y S' → _ := fun Y S' hY =>
    hb_M (d := 0) (I := Y) (S := S') (x1 := x1) (x2 := x2) (x3 := x3) (IV_L hY).2.1 ⟨(IV_mPs hY).1, (IV_mPs hY).2.1⟩ (IV_mRl hY)
  have zf : ∀ (Y : Nat → Nat → Int) (k : Int) (F : Nat → Int), (up1 (up2 Y 156 0 k) 177 F) 156 0 = k ∧ fR U Y (up1 (up2 Y 156 0 k) 177 F) := fun Y k F => ⟨by rw [up1_o _ (by decide)]; exact up2_same _ _ _ _, fR_trans (fR_0 (v := k)) (fR_scr (fun a ha => up1_o _ (fun e => ha ⟨by rw [e]; unfold scr; omega, by omega⟩)))⟩
  by_cases w : 5 ≤ x1 ∧ x1 ≤ 7
  · obtain ⟨F, t1, t2⟩ := tr_C (d := 4) (x2 := x2) (S := S) (I := I) l1 w
    have o : ∀ a, a ≠ 152 → up1 I 152 F a = I a := fun a ha => up1_o _ ha
    have frJ : fR U I (up1 I 152 F) := fR_scr (fun a ha => up1_o _ (fun e => ha ⟨by rw [e]; unfold scr; omega, by omega⟩))
    have hc := c_X11_hub (d := 0) (I := I) (S := S) (x1 := x1) (x2 := x2) (x3 := x3) (J1 := up1 I 152 F) (z1 := tkB x2 x1.toNat) l1 (fun _ _ _ _ _ _ => by omega) (fun _ _ _ _ _ _ => by rw [o T (by omega), e1]; omega) (fun _ _ _ _ _ _ p hp => by rw [o T (by omega), e1] at hp; rw [o _ (by omega)]; exact f3 p hp) (fun _ _ _ _ _ _ => by omega) (fun _ _ _ _ _ _ => by rw [o (T + 2) (by omega), e2]; omega) (fun _ _ _ _ _ _ k hk => by rw [o (T + 2) (by omega), e2] at hk; rw [o 129 (by omega)]; exact f2 k hk) (fun _ _ _ _ => t1)
    by_cases w1 : 0 ≤ x3 ∧ x3 ≤ 1
    · simp only [if_neg (show ¬(x3 < 0) by omega), if_pos w1.2, if_neg (show ¬(x1 < 5) by omega), if_neg (show ¬(7 < x1) by omega)] at hc
      by_cases w2 : tkB x2 x1.toNat = true
      · simp only [if_pos w2] at hc
        refine mk_ok0 h (Ca.deep hc (by omega)) frJ (fun Y hY hYJ => ?_)
        obtain ⟨v, k, G, m0, m1, m2, m3⟩ := mm Y _ hY
        obtain ⟨k0, g1, g2⟩ := m3 w1 ⟨w, w2⟩
        have yi : ∀ b, b ≠ 191 → b ≠ 152 → Y b = I b := fun b h1 h2 => by rw [hYJ b h1, o b h2]
        have zi : ∀ b, b ≠ 177 → b ≠ 191 → b ≠ 152 → up1 Y 177 G b = I b := fun b h0 h1 h2 => by rw [up1_o _ h0, yi b h1 h2]
        have row : ∀ k : Nat, (k : Int) < x1 → up1 I 152 F 152 k = up1 Y 177 G 177 k := fun k hk => by rw [up1_same, up1_same, t2 w2 k (by omega), g1 k (by omega)]
        have ev : v = (if x3 ≠ 0 then ((hoC (up1 I 152 F) T 152 x1 (up1 I 152 F T 1).toNat) : Int) else (bhC (up1 I 152 F) (T + 2) 152 129 x1 (up1 I 152 F (T + 2) 0).toNat)) := by
          rw [g2, o T (by omega), o (T + 2) (by omega), e1, e2, (fm_IV hY).2.1.1, Int.toNat_natCast, Int.toNat_natCast]
          by_cases q : x3 ≠ 0
          · rw [if_pos q, if_pos q]
            refine (ho_eq (fun p hp => ?_) (by omega) row).symm
            rw [zi 159 (by decide) (by decide) (by decide), zi 165 (by decide) (by decide) (by decide)]
            have g := ((IV_P h).2.2.2 p hp).1
            exact pc_frame g (fun k _ => by rw [o _ (by omega)]) (o _ (by omega)) (o _ (by omega)) (o _ (by omega)) (fun k _ _ => rfl) (fun k _ _ => rfl)
          · rw [if_neg q, if_neg q]
            refine (bh_eq (rl_IV h (o _ (by omega)) (o _ (by omega)) (zi 160 (by decide) (by decide) (by decide)) (fun k _ => by rw [zi 178 (by decide) (by decide) (by decide)])) ?_ (by omega) row).symm
            rw [zi 156 (by decide) (by decide) (by decide)]
            exact (IV_R h).2.2.1
        rw [ev] at m0
        exact ⟨_, Ca.deep m0 (by omega), by rw [(zf Y k G).1]; exact k0, (zf Y k G).2⟩
      · simp only [if_neg w2] at hc
        refine mk_thr0 h ecN_0 (Ca.deep hc (by omega)) frJ (fun Y hY hYJ => ?_)
        obtain ⟨v, k, G, m0, m1, m2, m3⟩ := mm Y _ hY
        exact ⟨_, _, Ca.deep m0 (by omega), by rw [(zf Y k G).1]; exact m2 w1 (fun q => w2 q.2), (zf Y k G).2⟩
    · by_cases w3 : x3 < 0
      · simp only [if_pos w3] at hc
        refine mk_thr0 h ecN_1 (Ca.deep hc (by omega)) fR_refl (fun Y hY hYJ => ?_)
        obtain ⟨v, k, G, m0, m1, m2, m3⟩ := mm Y _ hY
        exact ⟨_, _, Ca.deep m0 (by omega), by rw [(zf Y k G).1]; exact m1 w1, (zf Y k G).2⟩
      · simp only [if_neg w3, if_neg (show ¬(x3 ≤ 1) by omega)] at hc
        refine mk_thr0 h ecN_1 (Ca.deep hc (by omega)) fR_refl (fun Y hY hYJ => ?_)
        obtain ⟨v, k, G, m0, m1, m2, m3⟩ := mm Y _ hY
        exact ⟨_, _, Ca.deep m0 (by omega), by rw [(zf Y k G).1]; exact m1 w1, (zf Y k G).2⟩
  · have nw : ∀ {Q : Prop}, (5 ≤ x1) → (x1 ≤ 7) → Q := fun q1 q2 => absurd ⟨q1, q2⟩ w
    have hc := c_X11_hub (d := 0) (I := I) (S := S) (x1 := x1) (x2 := x2) (x3 := x3) (J1 := I) (z1 := false) l1 (fun _ _ q1 q2 _ _ => nw q1 q2) (fun _ _ q1 q2 _ _ => nw q1 q2) (fun _ _ q1 q2 _ _ => nw q1 q2) (fun _ _ q1 q2 _ _ => nw q1 q2) (fun _ _ q1 q2 _ _ => nw q1 q2) (fun _ _ q1 q2 _ _ => nw q1 q2) (fun _ _ q1 q2 => nw q1 q2)
    by_cases w1 : 0 ≤ x3 ∧ x3 ≤ 1
    · simp only [if_neg (show ¬(x3 < 0) by omega), if_pos w1.2] at hc
      have bad : Ca 5 mX11_hub [vR (some (21, 0, 31)), vI x1, vI x2, vI x3] (I, S) (.inr 0) (I, exS S) → outC c mX11_hub mX12_hub ecN [vI x1, vI x2, vI x3] I S := fun hc =>
        mk_thr0 h ecN_0 (Ca.deep hc (by omega)) fR_refl (fun Y hY hYJ => by
          obtain ⟨v, k, G, m0, m1, m2, m3⟩ := mm Y _ hY
          exact ⟨_, _, Ca.deep m0 (by omega), by rw [(zf Y k G).1]; exact m2 w1 (fun q => w q.1), (zf Y k G).2⟩)
      by_cases w4 : x1 < 5
      · simp only [if_pos w4] at hc
        exact bad hc
      · simp only [if_neg w4, if_pos (show 7 < x1 by omega)] at hc
        exact bad hc
    · have bad : Ca 5 mX11_hub [vR (some (21, 0, 31)), vI x1, vI x2, vI x3] (I, S) (.inr 1) (I, exS S) → outC c mX11_hub mX12_hub ecN [vI x1, vI x2, vI x3] I S := fun hc =>
        mk_thr0 h ecN_1 (Ca.deep hc (by omega)) fR_refl (fun Y hY hYJ => by
          obtain ⟨v, k, G, m0, m1, m2, m3⟩ := mm Y _ hY
          exact ⟨_, _, Ca.deep m0 (by omega), by rw [(zf Y k G).1]; exact m1 w1, (zf Y k G).2⟩)
      by_cases w3 : x3 < 0
      · simp only [if_pos w3] at hc
        exact bad hc
      · simp only [if_neg w3, if_neg (show ¬(x3 ≤ 1) by omega)] at hc
        exact bad hc
end
end
