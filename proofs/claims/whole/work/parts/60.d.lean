noncomputable section
section
variable {d : Nat} {I : Nat → Nat → Int} {S : PS}
/-- what is sent, by rules -/
def snC (I : Nat → Nat → Int) (a0 a5 : Nat) (x1 x2 x3 x4 : Int) : Nat → Int
  | 0 => 0
  | k + 1 => if ¬(q_X7_applies I a0 k x1 x2 x3 x4 = true) then (snC I a0 a5 x1 x2 x3 x4 k : Int) else snC I a0 a5 x1 x2 x3 x4 k + I a5 k
theorem snC_le {a0 a5 : Nat} {x1 x2 x3 x4 : Int} : ∀ {n : Nat}, (∀ k, k < n → 0 ≤ I a5 k ∧ I a5 k ≤ 99) → 0 ≤ snC I a0 a5 x1 x2 x3 x4 n ∧ snC I a0 a5 x1 x2 x3 x4 n ≤ 99 * n
  | 0, _ => ⟨Int.le_refl 0, Int.le_refl 0⟩
  | n + 1, h => by
    have h1 := snC_le (a0 := a0) (x1 := x1) (x2 := x2) (x3 := x3) (x4 := x4) (n := n) (fun k hk => h k (by omega))
    have h2 := h n (by omega)
    unfold snC
    split <;> omega
theorem c_X7_sent {a0 n5 a5 : Nat} {x1 x2 x3 x4 : Int} (hl0 : LyX7 S a0) (hn : n5 = 6) (hc : 0 ≤ I a0 0 ∧ I a0 0 ≤ 6) (ha : ∀ k : Nat, (k : Int) < I a0 0 → 0 ≤ I a5 k ∧ I a5 k ≤ 99) : Ca (d + 2) mX7_sent [vR (some (17, 0, a0)), vI x1, vI x2, vI x3, vI x4, vR (some (0, n5, a5))] (I, S) (.inl (some (vI (snC I a0 a5 x1 x2 x3 x4 (I a0 0).toNat)))) (I, S) := by
  refine w_X7_sent_0 hl0 ?_
  refine up_loopN (P := fun k => L_X7_sent_6 d a0 x1 x2 x3 x4 n5 a5 (snC I a0 a5 x1 x2 x3 x4 k) k I S (snC I a0 a5 x1 x2 x3 x4 (I a0 0).toNat) (I, S)) (n := (I a0 0).toNat) ?_ ?_
  · exact w_X7_sent_6 hl0 (fun h => absurd h (by omega)) (fun _ => rfl)
  · intro k hk ih
    have h1 := snC_le (I := I) (a0 := a0) (a5 := a5) (x1 := x1) (x2 := x2) (x3 := x3) (x4 := x4) (n := k) (fun j hj => ha j (by omega))
    have h2 := ha k (by omega)
    exact w_X7_sent_6 hl0 (fun _ => ih) (fun h => absurd h (by omega)) (v3 := fun _ _ => by show -2147483648 ≤ _ + I a5 k ∧ _ + I a5 k ≤ 2147483647; omega)
/-- what is sent, the reference's -/
def snM (I : Nat → Nat → Int) (b x2 x3 x4 x5 : Int) : Nat → Int
  | 0 => 0
  | k + 1 => snM I b x2 x3 x4 x5 k + (if ¬(q_X12_doesSend I k x2 x3 x4 x5 = true) then (0 : Int) else I 178 (b + 12 + (k : Int)).toNat)
theorem snM_le {b x2 x3 x4 x5 : Int} : ∀ {n : Nat}, (∀ k : Nat, k < n → 0 ≤ I 178 (b + 12 + (k : Int)).toNat ∧ I 178 (b + 12 + (k : Int)).toNat ≤ 99) → 0 ≤ snM I b x2 x3 x4 x5 n ∧ snM I b x2 x3 x4 x5 n ≤ 99 * n
  | 0, _ => ⟨Int.le_refl 0, Int.le_refl 0⟩
  | n + 1, h => by
    have h1 := snM_le (b := b) (x2 := x2) (x3 := x3) (x4 := x4) (x5 := x5) (n := n) (fun k hk => h k (by omega))
    have h2 := h n (by omega)
    unfold snM
    split <;> omega
theorem c_X12_sends0 {x1 x2 x3 x4 x5 : Int} (hl0 : LyX12 S) (hb : x1 = 0 ∨ x1 = 18) (hc : 0 ≤ (I 156 14) ∧ (I 156 14) ≤ 6) (ha : ∀ k : Nat, (k : Int) < (I 156 14) → 0 ≤ I 178 (x1 + 12 + (k : Int)).toNat ∧ I 178 (x1 + 12 + (k : Int)).toNat ≤ 99) : Ca (d + 2) mX12_sends0 [vR (some (22, 0, 156)), vI x1, vI x2, vI x3, vI x4, vI x5] (I, S) (.inl (some (vI (snM I x1 x2 x3 x4 x5 ((I 156 14)).toNat)))) (I, S) := by
  refine w_X12_sends0_0 hl0 ?_
  refine up_loopN (P := fun k => L_X12_sends0_6 d 156 x1 x2 x3 x4 x5 (snM I x1 x2 x3 x4 x5 k) k I S (snM I x1 x2 x3 x4 x5 ((I 156 14)).toNat) (I, S)) (n := ((I 156 14)).toNat) ?_ ?_
  · exact w_X12_sends0_6 hl0 (fun h => absurd h (by omega)) (fun _ => rfl)
  · intro k hk ih
    have h1 := snM_le (I := I) (b := x1) (x2 := x2) (x3 := x3) (x4 := x4) (x5 := x5) (n := k) (fun j hj => ha j (by omega))
    have h2 := ha k (by omega)
    exact w_X12_sends0_6 hl0 (fun _ => ih) (fun h => absurd h (by omega))
/-- whether two vertices are joined, the reference's -/
def jnP (f : Nat → Int) (p a b : Int) (k : Nat) : Bool := decide ((f (((20 * p) + 11) + (2 * (k : Int))).toNat = a ∧ f ((((20 * p) + 11) + (2 * (k : Int))) + 1).toNat = b) ∨ (f (((20 * p) + 11) + (2 * (k : Int))).toNat = b ∧ f ((((20 * p) + 11) + (2 * (k : Int))) + 1).toNat = a))
def jnM (f : Nat → Int) (p a b : Int) : Bool := anyB (jnP f p a b) (f ((20 * p) + 10).toNat).toNat
theorem c_X12_isJoin {x1 x2 x3 : Int} (hl0 : LyX12 S) (hp : 0 ≤ x1 ∧ x1 < 4) (hj : 0 ≤ I 159 ((20 * x1) + 10).toNat ∧ I 159 ((20 * x1) + 10).toNat ≤ 4) : Ca d mX12_isJoin [vR (some (22, 0, 156)), vI x1, vI x2, vI x3] (I, S) (.inl (some (vI (if jnM (I 159) x1 x2 x3 = true then 1 else 0)))) (I, S) := by
  refine w_X12_isJoin_0 hl0 ?_
  unfold jnM
  refine up_loopN (P := fun k => anyB (jnP (I 159) x1 x2 x3) k = false → L_X12_isJoin_3 d 156 x1 x2 x3 k I S (if anyB (jnP (I 159) x1 x2 x3) (I 159 ((20 * x1) + 10).toNat).toNat = true then 1 else 0) (I, S)) (n := (I 159 ((20 * x1) + 10).toNat).toNat) ?_ ?_ rfl
  · intro hf
    exact w_X12_isJoin_3 hl0 (fun h => absurd h (by omega)) (fun h => absurd h (by omega)) (fun h => absurd h (by omega)) (fun h => absurd h (by omega)) (fun _ => by rw [hf]; rfl) (r2 := fun h => absurd h (by omega)) (r3 := fun h => absurd h (by omega)) (r4 := fun h => absurd h (by omega))
  · intro k hk ih hf
    refine w_X12_isJoin_3 hl0 (fun _ c1 c2 => ih (anyB_succ hf (decide_eq_false ?_))) (fun _ c1 c2 c3 => ih (anyB_succ hf (decide_eq_false ?_))) (fun _ c1 c2 c3 => ih (anyB_succ hf (decide_eq_false ?_))) (fun _ c1 c2 c3 c4 => ih (anyB_succ hf (decide_eq_false ?_))) (fun h => absurd h (by omega)) (r2 := fun _ c1 c2 c3 => (if_pos (anyB_yes hk (decide_eq_true ?_))).symm) (r3 := fun _ c1 c2 => (if_pos (anyB_yes hk (decide_eq_true ?_))).symm) (r4 := fun _ c1 c2 c3 c4 => (if_pos (anyB_yes hk (decide_eq_true ?_))).symm)
    · rintro (q | q); exact c1 q.1; exact c2 q.1
    · rintro (q | q); exact c1 q.1; exact c3 q.2
    · rintro (q | q); exact c2 q.2; exact c3 q.1
    · rintro (q | q); exact c2 q.2; exact c4 q.2
    · exact Or.inr ⟨c2, c3⟩
    · exact Or.inl ⟨c1, c2⟩
    · exact Or.inr ⟨c3, c4⟩
end
end
