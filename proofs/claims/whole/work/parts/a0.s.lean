/-! ===== contracts with plain premises ===== -/
noncomputable section
section
variable {d : Nat} {I : Nat → Nat → Int} {S : PS}
/-- the k-th neighbour, round and round -/
def nrF (f : Nat → Int) (u k : Int) : Int := f (((10 * u) + 1) + ((k + f (10 * u).toNat) % f (10 * u).toNat)).toNat
theorem k_X12_nearOf {n0 a0 : Nat} {x1 x2 : Int} (hn : n0 = 120) (hu : 0 ≤ x1 ∧ x1 < 12) (hd : 1 ≤ I a0 (10 * x1).toNat ∧ I a0 (10 * x1).toNat ≤ 9) (hk : 0 ≤ x2 ∧ x2 ≤ 100) : Ca d mX12_nearOf [vR (some (0, n0, a0)), vI x1, vI x2] (I, S) (.inl (some (vI (nrF (I a0) x1 x2)))) (I, S) := by
  have h1 : 0 ≤ (x2 + I a0 (10 * x1).toNat) % I a0 (10 * x1).toNat := Int.emod_nonneg _ (by omega)
  have h2 : (x2 + I a0 (10 * x1).toNat) % I a0 (10 * x1).toNat < I a0 (10 * x1).toNat := Int.emod_lt_of_pos _ (by omega)
  exact c_X12_nearOf (by omega) (by omega) (by omega) (by omega) (by omega) (by omega) (by omega)
def bdF (f : Nat → Int) (p : Int) : Int := if f ((20 * p) + 1).toNat ≠ f (20 * p).toNat then (f ((20 * p) + 1).toNat + 1 : Int) else f (20 * p).toNat
theorem k_X12_border {n0 a0 : Nat} {x1 : Int} (hn : n0 = 80) (hp : 0 ≤ x1 ∧ x1 < 4) (hs : 0 ≤ I a0 ((20 * x1) + 1).toNat ∧ I a0 ((20 * x1) + 1).toNat ≤ 7) : Ca d mX12_border [vR (some (0, n0, a0)), vI x1] (I, S) (.inl (some (vI (bdF (I a0) x1)))) (I, S) :=
  c_X12_border (by omega) (by omega) (by omega) (by omega) (fun _ => by omega)
/-- a piece as it was read -/
def mPc (f : Nat → Int) (p : Int) : Prop := (5 ≤ f (20 * p).toNat ∧ f (20 * p).toNat ≤ 7) ∧ (0 ≤ f ((20 * p) + 1).toNat ∧ f ((20 * p) + 1).toNat ≤ f (20 * p).toNat) ∧ ∀ k : Int, 0 ≤ k → k < f ((20 * p) + 1).toNat → 5 ≤ f (((20 * p) + 2) + k).toNat ∧ f (((20 * p) + 2) + k).toNat ≤ 9
theorem bdF_in {f : Nat → Int} {p : Int} (h : mPc f p) : 1 ≤ bdF f p ∧ bdF f p ≤ 7 ∧ bdF f p ≤ f ((20 * p) + 1).toNat + 1 := by
  obtain ⟨h1, h2, _⟩ := h
  unfold bdF
  split <;> omega
theorem outer_in {a0 : Nat} {x1 x2 : Int} (h : mPc (I a0) x1) (hi : 0 ≤ x2 ∧ x2 ≤ I a0 ((20 * x1) + 1).toNat) : 0 ≤ f_X12_outer I a0 x1 x2 ∧ f_X12_outer I a0 x1 x2 ≤ 8 := by
  obtain ⟨h1, h2, h3⟩ := h
  unfold f_X12_outer
  split
  · have := h3 x2 hi.1 (by omega)
    split <;> split <;> omega
  · omega
theorem k_X12_outer {n0 a0 : Nat} {x1 x2 : Int} (hn : n0 = 80) (hp : 0 ≤ x1 ∧ x1 < 4) (h : mPc (I a0) x1) (hi : 0 ≤ x2 ∧ x2 ≤ I a0 ((20 * x1) + 1).toNat) : Ca d mX12_outer [vR (some (0, n0, a0)), vI x1, vI x2] (I, S) (.inl (some (vI (f_X12_outer I a0 x1 x2)))) (I, S) := by
  obtain ⟨h1, h2, h3⟩ := h
  have h4 : x2 ≠ I a0 ((20 * x1) + 1).toNat → 5 ≤ I a0 (((20 * x1) + 2) + x2).toNat ∧ I a0 (((20 * x1) + 2) + x2).toNat ≤ 9 := fun q => h3 x2 hi.1 (by omega)
  exact c_X12_outer (by omega) (by omega) (by omega) (fun _ => by omega) (fun _ => by omega) (fun _ => by omega) (fun _ => by omega) (fun q => by have := h4 q; omega) (fun q => by have := h4 q; split <;> omega) (fun _ => by omega) (fun q => by have := h4 q; split <;> split <;> omega) (fun _ => by omega) (fun _ => by omega)
/-- an edge in a row of rows -/
def lkO (f : Nat → Int) (o a b : Int) : Nat → Int := up1 (up1 f (o + a).toNat (p_or (f (o + a).toNat) (p_shl 1 b))) (o + b).toNat (p_or ((up1 f (o + a).toNat (p_or (f (o + a).toNat) (p_shl 1 b))) (o + b).toNat) (p_shl 1 a))
theorem k_X12_joins {x1 x2 x3 : Int} (hl0 : LyX12 S) (hp : 0 ≤ x1 ∧ x1 < 4) (ha : 0 ≤ x2 ∧ x2 < 15) (hb : 0 ≤ x3 ∧ x3 < 15) : Ca d mX12_joins [vR (some (22, 0, 156)), vI x1, vI x2, vI x3] (I, S) (.inl none) (up1 I 166 (lkO (I 166) (15 * x1) x2 x3), S) := by
  have h := c_X12_joins (d := d) (I := I) (S := S) (x1 := x1) (x2 := x2) (x3 := x3) hl0 (by omega) (by omega) (by omega) (by omega) (by omega)
  have e : up2 (up2 I 166 ((15 * x1) + x2).toNat (p_or (I 166 ((15 * x1) + x2).toNat) (p_shl 1 x3))) 166 ((15 * x1) + x3).toNat (p_or ((up2 I 166 ((15 * x1) + x2).toNat (p_or (I 166 ((15 * x1) + x2).toNat) (p_shl 1 x3))) 166 ((15 * x1) + x3).toNat) (p_shl 1 x2)) = up1 I 166 (lkO (I 166) (15 * x1) x2 x3) := by
    rw [up2_up1 I, up2_up1, up1_up1, up1_same]
    rfl
  rw [e] at h
  exact h
theorem k_X3_link {a0 : Nat} {x1 x2 : Int} (hl0 : LyX3 S a0) (ha : 0 ≤ x1 ∧ x1 < 15) (hb : 0 ≤ x2 ∧ x2 < 15) : Ca d mX3_link [vR (some (14, 0, a0)), vI x1, vI x2] (I, S) (.inl none) (up1 I (a0 + 2) (lk (I (a0 + 2)) x1 x2), S) := by
  have h := c_X3_link (d := d) (I := I) (S := S) (a0 := a0) (x1 := x1) (x2 := x2) hl0 ha hb
  rw [lk_heap] at h
  exact h
end
end
