/-! ===== image, restore ===== -/
noncomputable section
section
variable {d : Nat} {I J K X Y Z : Nat → Nat → Int} {S S' : PS} {c T U n P R N p r s m : Nat}
theorem cpI_o {a sp b dp k e j : Nat} (h : e ≠ b) : cpyI I a sp b dp k e j = I e j := by
  unfold cpyI
  rw [up1_o _ h]
theorem cpI_v {a b k j : Nat} (h : j < k) : cpyI I a 0 b 0 k b j = I a j := by
  unfold cpyI
  rw [up1_same, if_pos (by omega), Nat.sub_zero, Nat.zero_add]
theorem iT_k (h : iT I n) (e1 : K 31 1 = I 31 1) (e2 : K 156 2 = I 156 2) (e3 : K 33 = I 33) (e4 : K 157 = I 157) : iT K n := by
  unfold iT at h ⊢
  rw [e1, e2, e3, e4]
  exact h
theorem iF_k (h : iF I c) (e1 : K 31 15 = I 31 15) (e2 : K 156 4 = I 156 4) (e3 : K 155 = I 155) (e4 : K 158 = I 158) : iF K (c + 1) := by
  have h := iF_c h (show c ≤ c + 1 by omega)
  unfold iF at h ⊢
  rw [e1, e2, e3, e4]
  exact h
theorem pu_image (h : IV c T U n P R N I S) : outV c mX11_image mX12_image I S := by
  obtain ⟨l1, l2, hT⟩ := IV_L h
  have hN := (IV_S h).1
  have hR := (IV_R h).1
  refine ⟨_, Ca.deep (c_X11_image (d := 0) (I := I) (S := S) l1) (by omega), fun Y hYJ => ⟨_, Ca.deep (c_X12_image (d := 0) (I := Y) (S := S) l2) (by omega), ?_, T, U, n, P, R, N, ?_⟩⟩
  · unfold imI
    rw [up1_o _ (by decide), up1_o _ (by decide), up1_o _ (by decide), up2_k _ (by decide), up2_k _ (by decide), up2_k _ (by decide), up2_same]
  · have yo : ∀ a, a ≠ 191 → a ≠ 31 → ¬(135 ≤ a ∧ a ≤ 143) → Y a = I a := fun a h1 h2 h3 => by
      rw [hYJ a h1]
      funext j
      simp (disch := omega) only [up2_a, cpI_o]
    have y31 : ∀ j, j ≠ 8 → Y 31 j = I 31 j := fun j hj => by
      rw [hYJ 31 (by decide)]
      simp (disch := omega) only [up2_a, up2_k, cpI_o]
    have ko : ∀ a, a ≠ 156 → ¬(188 ≤ a ∧ a ≤ 190) → imI Y a = Y a := fun a h1 h2 => by
      unfold imI
      rw [up1_o _ (by omega), up1_o _ (by omega), up1_o _ (by omega)]
      funext j
      rw [up2_a _ h1, up2_a _ h1, up2_a _ h1, up2_a _ h1]
    have k6 : ∀ j, j ≠ 0 → j ≠ 59 → j ≠ 60 → j ≠ 61 → imI Y 156 j = I 156 j := fun j h0 h1 h2 h3 => by
      unfold imI
      rw [up1_o _ (by decide), up1_o _ (by decide), up1_o _ (by decide), up2_k _ h3, up2_k _ h2, up2_k _ h1, up2_k _ h0, yo 156 (by decide) (by decide) (by decide)]
    have k : ∀ a, a ≠ 191 → a ≠ 31 → ¬(135 ≤ a ∧ a ≤ 143) → a ≠ 156 → ¬(188 ≤ a ∧ a ≤ 190) → imI Y a = I a := fun a h1 h2 h3 h4 h5 => by rw [ko a h4 h5, yo a h1 h2 h3]
    refine IV_w h ⟨fun a h1 h2 h3 h4 h5 => k a (by unfold scr at h2; omega) (by unfold mutR at h4; omega) (by unfold mutR at h4; omega) h3 (by unfold mutR at h4; omega), fun j hj => k6 j (by unfold crR at hj; omega) (by unfold crR at hj; omega) (by unfold crR at hj; omega) (by unfold crR at hj; omega), fun a ha => k a (by omega) (by omega) (by omega) (by omega) (by omega)⟩ (k 122 (by decide) (by decide) (by decide) (by decide) (by decide)) (k 123 (by decide) (by decide) (by decide) (by decide) (by decide)) (iT_k h.2.1 (by rw [ko 31 (by decide) (by decide)]; exact y31 1 (by decide)) (k6 2 (by decide) (by decide) (by decide) (by decide)) (k 33 (by decide) (by decide) (by decide) (by decide) (by decide)) (k 157 (by decide) (by decide) (by decide) (by decide) (by decide))) (iF_k h.2.2.1 (by rw [ko 31 (by decide) (by decide)]; exact y31 15 (by decide)) (k6 4 (by decide) (by decide) (by decide) (by decide)) (k 155 (by decide) (by decide) (by decide) (by decide) (by decide)) (k 158 (by decide) (by decide) (by decide) (by decide) (by decide))) ?_ ?_
    · have e : ∀ a, 126 ≤ a → a < 135 → imI Y a = I a := fun a h1 h2 => k a (by omega) (by omega) (by omega) (by omega) (by omega)
      exact saR_of (IV_A h) hN hR ⟨by rw [e 126 (by decide) (by decide)], by rw [e 126 (by decide) (by decide)]⟩ (fun a h1 h2 => e a (by omega) (by omega)) (fun i _ => by rw [k 178 (by decide) (by decide) (by decide) (by decide) (by decide)]) (k 179 (by decide) (by decide) (by decide) (by decide) (by decide)) (k 187 (by decide) (by decide) (by decide) (by decide) (by decide)) (k6 41 (by decide) (by decide) (by decide) (by decide)) (k6 56 (by decide) (by decide) (by decide) (by decide))
    · have i59 : imI Y 156 59 = 1 := by
        unfold imI
        rw [up1_o _ (by decide), up1_o _ (by decide), up1_o _ (by decide), up2_k _ (by decide), up2_k _ (by decide), up2_same]
      have kb : ∀ a, 126 ≤ a → a ≤ 143 → imI Y a = Y a := fun a h1 h2 => ko a (by omega) (by omega)
      have b8 : imI Y 188 = upTo (Y 188) (Y 178) 0 18 := by unfold imI; rw [up1_o _ (by decide), up1_o _ (by decide), up1_same]
      have b9 : imI Y 189 = upTo (Y 189) (Y 179) 0 540 := by unfold imI; rw [up1_o _ (by decide), up1_same]
      have b0 : imI Y 190 = upTo (Y 190) (Y 187) 0 16 := by unfold imI; rw [up1_same]
      refine ⟨?_, Or.inr ⟨i59, saR_cp (s := 126) (IV_A h) hN hR ?_ ?_ ?_ ?_ ?_ ?_ ?_ ?_ ?_ ?_ ?_ ?_ ?_ ?_⟩⟩
      · rw [i59, ko 31 (by decide) (by decide), hYJ 31 (by decide), up2_same]
      · rw [kb 135 (by decide) (by decide), hYJ 135 (by decide)]
        simp (disch := omega) only [up2_a, up2_k, cpI_o, up2_same]
      · rw [kb 135 (by decide) (by decide), hYJ 135 (by decide)]
        simp (disch := omega) only [up2_a, up2_k, cpI_o, up2_same]
      · intro j hj
        rw [kb 137 (by decide) (by decide), hYJ 137 (by decide)]
        simp (disch := omega) only [up2_a, cpI_o, cpI_v]
      · intro j hj
        rw [kb 138 (by decide) (by decide), hYJ 138 (by decide)]
        simp (disch := omega) only [up2_a, cpI_o, cpI_v]
      · intro j hj
        rw [kb 139 (by decide) (by decide), hYJ 139 (by decide)]
        simp (disch := omega) only [up2_a, cpI_o, cpI_v]
      · intro j hj
        rw [kb 140 (by decide) (by decide), hYJ 140 (by decide)]
        simp (disch := omega) only [up2_a, cpI_o, cpI_v]
      · intro j hj
        rw [kb 141 (by decide) (by decide), hYJ 141 (by decide)]
        simp (disch := omega) only [up2_a, cpI_o, cpI_v]
      · intro j hj
        rw [kb 142 (by decide) (by decide), hYJ 142 (by decide)]
        simp (disch := omega) only [up2_a, cpI_o, cpI_v]
      · intro j hj
        rw [kb 143 (by decide) (by decide), hYJ 143 (by decide)]
        simp (disch := omega) only [up2_a, cpI_o, cpI_v]
      · intro j hj
        rw [b8, upTo_in (by omega), yo 178 (by decide) (by decide) (by decide)]
      · intro j hj
        rw [b9, upTo_in (by omega), yo 179 (by decide) (by decide) (by decide)]
      · intro j hj
        rw [b0, upTo_in (by omega), yo 187 (by decide) (by decide) (by decide)]
      · unfold imI
        rw [up1_o _ (by decide), up1_o _ (by decide), up1_o _ (by decide), up2_k _ (by decide), up2_same, yo 156 (by decide) (by decide) (by decide)]
      · unfold imI
        rw [up1_o _ (by decide), up1_o _ (by decide), up1_o _ (by decide), up2_same, yo 156 (by decide) (by decide) (by decide)]
theorem pu_restore (h : IV c T U n P R N I S) : outC c mX11_restore mX12_restore ecZ [] I S := by
  obtain ⟨l1, l2, hT⟩ := IV_L h
  have hN := (IV_S h).1
  have hR := (IV_R h).1
  obtain ⟨i1, i2⟩ := h.2.2.2.2.2.2.2.1
  rcases i2 with i2 | ⟨i2, i3⟩
  · refine mk_ok0 h (Ca.deep (c_X11_restore_n (d := 0) (I := I) (S := S) l1 (fun z => z (by rw [i1]; exact i2))) (by omega)) fR_refl (fun Y hY hYJ => ?_)
    have y59 : Y 156 59 = 0 := by rw [hYJ 156 (by decide)]; exact i2
    have hm := c_X12_restore (d := 0) (I := Y) (S := S) (IV_L hY).2.1
    have e : reI Y = up2 Y 156 0 0 := if_pos y59
    rw [e, if_neg (fun z => z y59)] at hm
    exact ⟨_, Ca.deep hm (by omega), up2_same _ _ _ _, fR_0⟩
  · refine mk_mut (T := T) (U := U) (n := n) (P := P) (R := R) (N := N) (Ca.deep (c_X11_restore_y (d := 0) (I := I) (S := S) l1 (by rw [i1, i2]; decide)) (by omega)) (fun Y hYJ => ?_)
    have yo : ∀ a, a ≠ 191 → a ≠ 126 → ¬(128 ≤ a ∧ a ≤ 134) → Y a = I a := fun a h1 h2 h3 => by
      rw [hYJ a h1]
      funext j
      simp (disch := omega) only [up2_a, cpI_o]
    have y156 := yo 156 (by decide) (by decide) (by decide)
    have y59 : ¬(Y 156 59 = 0) := by rw [y156, i2]; decide
    have hm := c_X12_restore (d := 0) (I := Y) (S := S) l2
    rw [if_pos (show Y 156 59 ≠ 0 from y59)] at hm
    have eR : reI Y = up1 (up1 (up1 (up2 (up2 (up2 Y 156 0 0) 156 41 (Y 156 60)) 156 56 (Y 156 61)) 178 (upTo (Y 178) (Y 188) 0 18)) 179 (upTo (Y 179) (Y 189) 0 540)) 187 (upTo (Y 187) (Y 190) 0 16) := if_neg y59
    have ko : ∀ a, a ≠ 156 → a ≠ 178 → a ≠ 179 → a ≠ 187 → reI Y a = Y a := fun a h1 h2 h3 h4 => by
      rw [eR, up1_o _ h4, up1_o _ h3, up1_o _ h2]
      funext j
      rw [up2_a _ h1, up2_a _ h1, up2_a _ h1]
    have k6 : ∀ j, j ≠ 0 → j ≠ 41 → j ≠ 56 → reI Y 156 j = I 156 j := fun j h0 h1 h2 => by
      rw [eR, up1_o _ (by decide), up1_o _ (by decide), up1_o _ (by decide), up2_k _ h2, up2_k _ h1, up2_k _ h0, y156]
    have k : ∀ a, a ≠ 191 → a ≠ 126 → ¬(128 ≤ a ∧ a ≤ 134) → a ≠ 156 → a ≠ 178 → a ≠ 179 → a ≠ 187 → reI Y a = I a := fun a h1 h2 h3 h4 h5 h6 h7 => by rw [ko a h4 h5 h6 h7, yo a h1 h2 h3]
    have k' : ∀ a, 135 ≤ a → a ≤ 143 ∨ (188 ≤ a ∧ a ≤ 190) → reI Y a = I a := fun a h1 h2 => k a (by omega) (by omega) (by omega) (by omega) (by omega) (by omega) (by omega)
    refine ⟨_, Ca.deep hm (by omega), by rw [eR, up1_o _ (by decide), up1_o _ (by decide), up1_o _ (by decide), up2_k _ (by decide), up2_k _ (by decide), up2_same], ko 191 (by decide) (by decide) (by decide) (by decide), yo 0 (by decide) (by decide) (by decide), ?_⟩
    refine IV_w h ⟨fun a h1 h2 h3 h4 h5 => k a (by unfold scr at h2; omega) (by unfold mutR at h4; omega) (by unfold mutR at h4; omega) h3 (by unfold mutR at h4; omega) (by unfold mutR at h4; omega) (by unfold mutR at h4; omega), fun j hj => k6 j (by unfold crR at hj; omega) (by unfold crR at hj; omega) (by unfold crR at hj; omega), fun a ha => k a (by omega) (by omega) (by omega) (by omega) (by omega) (by omega) (by omega)⟩ (k 122 (by decide) (by decide) (by decide) (by decide) (by decide) (by decide) (by decide)) (k 123 (by decide) (by decide) (by decide) (by decide) (by decide) (by decide) (by decide)) (iT_k h.2.1 (by rw [k 31 (by decide) (by decide) (by decide) (by decide) (by decide) (by decide) (by decide)]) (k6 2 (by decide) (by decide) (by decide)) (k 33 (by decide) (by decide) (by decide) (by decide) (by decide) (by decide) (by decide)) (k 157 (by decide) (by decide) (by decide) (by decide) (by decide) (by decide) (by decide))) (iF_k h.2.2.1 (by rw [k 31 (by decide) (by decide) (by decide) (by decide) (by decide) (by decide) (by decide)]) (k6 4 (by decide) (by decide) (by decide)) (k 155 (by decide) (by decide) (by decide) (by decide) (by decide) (by decide) (by decide)) (k 158 (by decide) (by decide) (by decide) (by decide) (by decide) (by decide) (by decide))) ?_ ?_
    · have kb : ∀ a, 126 ≤ a → a ≤ 143 → reI Y a = Y a := fun a h1 h2 => ko a (by omega) (by omega) (by omega) (by omega)
      have b8 : reI Y 178 = upTo (Y 178) (Y 188) 0 18 := by rw [eR, up1_o _ (by decide), up1_o _ (by decide), up1_same]
      have b9 : reI Y 179 = upTo (Y 179) (Y 189) 0 540 := by rw [eR, up1_o _ (by decide), up1_same]
      have b0 : reI Y 187 = upTo (Y 187) (Y 190) 0 16 := by rw [eR, up1_same]
      refine saR_cp (s := 135) (s' := 126) i3 hN hR ?_ ?_ ?_ ?_ ?_ ?_ ?_ ?_ ?_ ?_ ?_ ?_ ?_ ?_
      · rw [kb 126 (by decide) (by decide), hYJ 126 (by decide)]
        simp (disch := omega) only [up2_a, up2_k, cpI_o, up2_same]
      · rw [kb 126 (by decide) (by decide), hYJ 126 (by decide)]
        simp (disch := omega) only [up2_a, up2_k, cpI_o, up2_same]
      · intro j hj
        rw [kb 128 (by decide) (by decide), hYJ 128 (by decide)]
        simp (disch := omega) only [up2_a, cpI_o, cpI_v]
      · intro j hj
        rw [kb 129 (by decide) (by decide), hYJ 129 (by decide)]
        simp (disch := omega) only [up2_a, cpI_o, cpI_v]
      · intro j hj
        rw [kb 130 (by decide) (by decide), hYJ 130 (by decide)]
        simp (disch := omega) only [up2_a, cpI_o, cpI_v]
      · intro j hj
        rw [kb 131 (by decide) (by decide), hYJ 131 (by decide)]
        simp (disch := omega) only [up2_a, cpI_o, cpI_v]
      · intro j hj
        rw [kb 132 (by decide) (by decide), hYJ 132 (by decide)]
        simp (disch := omega) only [up2_a, cpI_o, cpI_v]
      · intro j hj
        rw [kb 133 (by decide) (by decide), hYJ 133 (by decide)]
        simp (disch := omega) only [up2_a, cpI_o, cpI_v]
      · intro j hj
        rw [kb 134 (by decide) (by decide), hYJ 134 (by decide)]
        simp (disch := omega) only [up2_a, cpI_o, cpI_v]
      · intro j hj
        rw [b8, upTo_in (by omega), yo 188 (by decide) (by decide) (by decide)]
      · intro j hj
        rw [b9, upTo_in (by omega), yo 189 (by decide) (by decide) (by decide)]
      · intro j hj
        rw [b0, upTo_in (by omega), yo 190 (by decide) (by decide) (by decide)]
      · rw [eR, up1_o _ (by decide), up1_o _ (by decide), up1_o _ (by decide), up2_k _ (by decide), up2_same, y156]
      · rw [eR, up1_o _ (by decide), up1_o _ (by decide), up1_o _ (by decide), up2_same, y156]
    · refine ⟨by rw [k 31 (by decide) (by decide) (by decide) (by decide) (by decide) (by decide) (by decide), k6 59 (by decide) (by decide) (by decide)]; exact i1, Or.inr ⟨by rw [k6 59 (by decide) (by decide) (by decide)]; exact i2, saR_of i3 hN hR ⟨by rw [k' 135 (by decide) (by decide)], by rw [k' 135 (by decide) (by decide)]⟩ (fun a h1 h2 => k' a (by omega) (by omega)) (fun i _ => by rw [k' 188 (by decide) (by decide)]) (k' 189 (by decide) (by decide)) (k' 190 (by decide) (by decide)) (k6 60 (by decide) (by decide) (by decide)) (k6 61 (by decide) (by decide) (by decide))⟩⟩
end
end
