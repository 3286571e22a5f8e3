/-! ===== calls that give nothing back: forget ===== -/
noncomputable section
/-- a call that gives nothing back, on both sides -/
def outV (c : Nat) (mc mr : Nat × Nat) (I : Nat → Nat → Int) (S : PS) : Prop := ∃ J, Ca 60 mc [vR (some (21, 0, 31))] (I, S) (.inl none) (J, S) ∧ ∀ Y, (∀ a, a ≠ 191 → Y a = J a) → ∃ K, Ca 60 mr [vR (some (22, 0, 156))] (Y, S) (.inl none) (K, S) ∧ K 156 0 = 0 ∧ ∃ T U n P R N, IV (c + 1) T U n P R N K S
section
variable {d : Nat} {I J K X Y Z : Nat → Nat → Int} {S S' : PS} {c T U n P R N p r s : Nat}
theorem pu_forget (h : IV c T U n P R N I S) : outV c mX11_forget mX12_forget I S := by
  obtain ⟨l1, l2, hT⟩ := IV_L h
  refine ⟨_, Ca.deep (c_X11_forget (d := 0) (I := I) (S := S) l1) (by omega), fun Y hYJ => ⟨_, Ca.deep (c_X12_forget (d := 0) (I := Y) (S := S) l2) (by omega), by rw [up2_k _ (by decide), up2_same], T, U, n, P, R, N, ?_⟩⟩
  have yk : ∀ a, a ≠ 191 → a ≠ 126 → Y a = I a := fun a h1 h2 => by
    rw [hYJ a h1]
    exact funext (fun j => up2_a _ h2)
  refine nte_IV (m := 0) h (fun a h1 h2 h3 h4 h5 h6 => ?_) ?_ (fun j h0 h56 => ?_) (by omega) ?_ ?_ (fun i hi => absurd hi (Nat.not_lt_zero i))
  · exact funext (fun j => by rw [up2_a _ h5, up2_a _ h5, yk a h1 h2])
  · rw [up2_a _ (by decide), up2_a _ (by decide), hYJ 126 (by decide), up2_k _ (by decide)]
  · rw [up2_k _ h56, up2_k _ h0, yk 156 (by decide) (by decide)]
  · rw [up2_a _ (by decide), up2_a _ (by decide), hYJ 126 (by decide), up2_same]; rfl
  · rw [up2_same]; rfl
end
end
