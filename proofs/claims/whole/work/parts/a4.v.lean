noncomputable section
section
variable {d : Nat} {I : Nat → Nat → Int} {S : PS}
/-- a piece of the class, as it was read -/
def cPc (I : Nat → Nat → Int) (a0 : Nat) : Prop := (5 ≤ I a0 0 ∧ I a0 0 ≤ 7) ∧ (0 ≤ I a0 1 ∧ I a0 1 ≤ I a0 0) ∧ ∀ k : Int, 0 ≤ k → k < I a0 1 → 5 ≤ I (a0 + 1) k.toNat ∧ I (a0 + 1) k.toNat ≤ 9
/-- edges of a spoke to the ring, told plainly -/
theorem etr_eq {a0 : Nat} {x1 : Int} : f_X3_edgesToRing I a0 x1 = I (a0 + 1) x1.toNat - 1 - (if 0 < x1 ∨ I a0 1 = I a0 0 then (1 : Int) else 0) - (if x1 + 1 < I a0 1 ∨ I a0 1 = I a0 0 then (1 : Int) else 0) := by
  unfold f_X3_edgesToRing
  by_cases h1 : x1 + 1 < I a0 1
  · rw [if_pos h1, if_pos (Or.inl h1)]
    by_cases h2 : 0 < x1
    · rw [if_pos h2, if_pos (Or.inl h2)]; omega
    · rw [if_neg h2]
      by_cases h3 : I a0 1 = I a0 0
      · rw [if_neg (fun q => q h3), if_pos (Or.inr h3)]; omega
      · rw [if_pos h3, if_neg (fun q => q.elim h2 h3)]; omega
  · rw [if_neg h1]
    by_cases h3 : I a0 1 = I a0 0
    · rw [if_neg (fun q => q h3), if_pos (Or.inr h3), if_pos (Or.inr h3)]
      by_cases h2 : 0 < x1
      · rw [if_pos h2]; omega
      · rw [if_neg h2, if_neg (fun q => q h3)]; omega
    · rw [if_pos h3, if_neg (show ¬(x1 + 1 < I a0 1 ∨ I a0 1 = I a0 0) from fun q => q.elim h1 h3)]
      by_cases h2 : 0 < x1
      · rw [if_pos h2, if_pos (Or.inl h2)]; omega
      · rw [if_neg h2, if_pos h3, if_neg (fun q => q.elim h2 h3)]; omega
theorem etr_in {a0 : Nat} {x1 : Int} (h : cPc I a0) (hi : 0 ≤ x1 ∧ x1 < I a0 1) : 2 ≤ f_X3_edgesToRing I a0 x1 ∧ f_X3_edgesToRing I a0 x1 ≤ 8 := by
  have := h.2.2 x1 hi.1 hi.2
  rw [etr_eq]
  split <;> split <;> omega
theorem k_X3_edgesToRing {a0 : Nat} {x1 : Int} (hl0 : LyX3 S a0) (h : cPc I a0) (hi : 0 ≤ x1 ∧ x1 < I a0 1) : Ca (d + 1) mX3_edgesToRing [vR (some (14, 0, a0)), vI x1] (I, S) (.inl (some (vI (f_X3_edgesToRing I a0 x1)))) (I, S) := by
  have h1 := h.1
  have h2 := h.2.1
  have h5 := etr_in h hi
  exact c_X3_edgesToRing hl0 (by omega) (fun _ => by split <;> (first | omega | (split <;> omega))) (fun _ _ => by split <;> (first | omega | (split <;> omega))) (by omega) (by unfold f_X3_edgesToRing at h5; omega)
end
end
