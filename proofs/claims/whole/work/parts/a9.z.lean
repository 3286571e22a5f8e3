/-! ===== a piece is built ===== -/
noncomputable section
section
variable {d : Nat} {I : Nat → Nat → Int} {S : PS}
theorem prC_congr {J : Nat → Nat → Int} {a0 : Nat} (h0 : J a0 0 = I a0 0) (h1 : J a0 1 = I a0 1) (hs : J (a0 + 1) = I (a0 + 1)) : prC J a0 = prC I a0 := by
  have ee : ∀ x, f_X3_edgesToRing J a0 x = f_X3_edgesToRing I a0 x := fun x => by
    unfold f_X3_edgesToRing
    rw [h0, h1, hs]
  have es : ∀ k, prT J a0 k = prT I a0 k := by
    intro k
    induction k with
    | zero => rfl
    | succ k ih =>
      show prT J a0 k + (f_X3_edgesToRing J a0 k - 1) = prT I a0 k + (f_X3_edgesToRing I a0 k - 1)
      rw [ih, ee]
  unfold prC prB
  rw [h0, h1, es]
theorem prC_in {a0 : Nat} (h : cPc I a0) : 1 ≤ prC I a0 ∧ prC I a0 ≤ 60 := by
  obtain ⟨h1, h2, _⟩ := id h
  have hb := prB_in h
  have ht := prT_in h (I a0 1).toNat (by omega)
  unfold prC
  split <;> omega
/-- the piece before its edges are laid -/
def buK (I : Nat → Nat → Int) (a0 : Nat) : Nat → Nat → Int := up1 (up1 (up2 (up2 I a0 3 (prC I a0)) a0 4 ((prC I a0 + 1) + I a0 1)) (a0 + 2) (upTo (I (a0 + 2)) (fun _ => 0) 0 15)) (a0 + 3) (upTo (I (a0 + 3)) (fun _ => 0) 0 15)
def buI (I : Nat → Nat → Int) (a0 : Nat) : Nat → Nat → Int := if prC I a0 ≤ 7 then up1 (buK I a0) (a0 + 2) (lkL (buK I a0 (a0 + 2)) (edBu (buK I a0) a0)) else up2 I a0 3 (prC I a0)
theorem c_X3_build {a0 : Nat} (hl0 : LyX3 S a0) (h : cPc I a0) : Ca (d + 3) mX3_build [vR (some (14, 0, a0))] (I, S) (.inl (some (vI (if prC I a0 ≤ 7 then 1 else 0)))) (buI I a0, S) := by
  have hp := prC_in h
  have h2 := h.2.1
  have h1 := h.1
  have e3 : (up2 I a0 3 (prC I a0)) a0 3 = prC I a0 := up2_same _ _ _ _
  have e1 : (up2 I a0 3 (prC I a0)) a0 1 = I a0 1 := up2_k I (by decide)
  unfold buI
  refine w_X3_build_0 hl0 (fun hc => ?_) (fun hc => ?_) (fun hc => ?_) (v2 := fun _ => by rw [e3]; omega) (v3 := fun _ => by rw [e3, e1]; omega)
  · rw [e3] at hc
    rw [if_pos hc, if_pos hc]
    rw [e3, e1]
    have eA : ∀ X : Int, (up2 (up2 I a0 3 (prC I a0)) a0 4 X) (a0 + 2) = I (a0 + 2) := fun X => by
      funext j
      rw [up2_a _ (by omega), up2_a _ (by omega)]
    have eB : ∀ (X : Int) (Z : Nat → Int), (up1 (up2 (up2 I a0 3 (prC I a0)) a0 4 X) (a0 + 2) Z) (a0 + 3) = I (a0 + 3) := fun X Z => by
      rw [up1_o _ (by omega)]
      funext j
      rw [up2_a _ (by omega), up2_a _ (by omega)]
    rw [eA, eB]
    have kf : ∀ j, buK I a0 a0 j = (up2 (up2 I a0 3 (prC I a0)) a0 4 ((prC I a0 + 1) + I a0 1)) a0 j := fun j => by
      unfold buK
      rw [up1_o _ (show a0 ≠ a0 + 3 by omega), up1_o _ (show a0 ≠ a0 + 2 by omega)]
    have k0 : buK I a0 a0 0 = I a0 0 := by rw [kf, up2_k _ (by decide), up2_k _ (by decide)]
    have k1 : buK I a0 a0 1 = I a0 1 := by rw [kf, up2_k _ (by decide), up2_k _ (by decide)]
    have k3 : buK I a0 a0 3 = prC I a0 := by rw [kf, up2_k _ (by decide), up2_same]
    have ks : buK I a0 (a0 + 1) = I (a0 + 1) := by
      unfold buK
      rw [up1_o _ (show a0 + 1 ≠ a0 + 3 by omega), up1_o _ (show a0 + 1 ≠ a0 + 2 by omega)]
      funext j
      rw [up2_a _ (by omega), up2_a _ (by omega)]
    have hK : cPc (buK I a0) a0 := by
      unfold cPc
      rw [k0, k1, ks]
      exact h
    have q1 : buK I a0 a0 3 = prC (buK I a0) a0 := by rw [k3, prC_congr k0 k1 ks]
    have q2 : 1 ≤ buK I a0 a0 3 ∧ buK I a0 a0 3 ≤ 7 := by rw [k3]; omega
    exact build_loop (K := buK I a0) hl0 hK q1 q2
  · rw [e3] at hc
    rw [if_neg (by omega)]
  · rw [e3] at hc
    rw [if_neg (by omega)]
end
end
