/-! ===== meant ===== -/
noncomputable section
section
variable {d : Nat} {I J K X Y Z : Nat → Nat → Int} {S S' : PS} {c T U n P R N p r s m : Nat}
theorem IV_cNo (h : IV c T U n P R N I S) : cNo I T ∧ (0 ≤ I 156 56 ∧ I 156 56 ≤ 8) ∧ ∀ k : Nat, (k : Int) < I 156 56 → 0 ≤ I 187 (2 * (k : Int)).toNat ∧ I 187 (2 * (k : Int)).toNat < I 156 15 := by
  obtain ⟨_, _, _, m, m1, m2, m3, m4⟩ := IV_A h
  have e6 := (IV_S h).2.1
  have e15 := (IV_S h).2.2.1
  refine ⟨⟨by omega, fun i hi => ?_⟩, by omega, fun k hk => ?_⟩
  · have g : (I 133 i = I 187 (2 * i) ∧ 0 ≤ I 187 (2 * i) ∧ I 187 (2 * i) < (N : Int)) ∧ I 134 i = I 187 (2 * i + 1) ∧ -999 ≤ I 187 (2 * i + 1) ∧ I 187 (2 * i + 1) ≤ 999 := m4 i (by have : I 126 6 = (m : Int) := m2; omega)
    omega
  · have := m4 k (by omega)
    rw [show (2 * (k : Int)).toNat = 2 * k by omega]
    omega
theorem mt_N {x1 : Int} (hl0 : LyX12 S) (w : ¬(0 ≤ x1 ∧ x1 ≤ 2)) : Ca 6 mX12_meant [vR (some (22, 0, 156)), vI x1] (I, S) (.inl (some (vI 0))) (up2 (up2 I 156 0 0) 156 0 1, S) := by
  refine w_X12_meant_0 (d := 0) hl0 (fun q => absurd q w) (r1 := fun q => absurd q w) (e1 := fun q => absurd q w) (r2 := fun _ => rfl) (e2 := fun _ => rfl)
end
end
