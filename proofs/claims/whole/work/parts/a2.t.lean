noncomputable section
theorem fstB_in (p : Nat → Bool) : ∀ n : Nat, -1 ≤ fstB p n ∧ fstB p n < n
  | 0 => by show -1 ≤ (-1 : Int) ∧ (-1 : Int) < ((0 : Nat) : Int); omega
  | n + 1 => by
    have := fstB_in p n
    show -1 ≤ (if fstB p n ≠ -1 then fstB p n else if p n = true then (n : Int) else -1) ∧ (if fstB p n ≠ -1 then fstB p n else if p n = true then (n : Int) else -1) < ((n + 1 : Nat) : Int)
    split
    · omega
    · split <;> omega
section
variable {d : Nat} {I : Nat → Nat → Int} {S : PS}
/-- how many places the ring of a piece has, the reference's -/
def rgM (I : Nat → Nat → Int) (a0 : Nat) (p : Int) : Int := if I a0 ((20 * p) + 1).toNat = 0 then I a0 (20 * p).toNat else smI (fun i => f_X12_outer I a0 p i - 1) (bdF (I a0) p).toNat
theorem c_X12_ringOf {n0 a0 : Nat} {x1 : Int} (hn : n0 = 80) (hp : 0 ≤ x1 ∧ x1 < 4) (h : mPc (I a0) x1) : Ca (d + 1) mX12_ringOf [vR (some (0, n0, a0)), vI x1] (I, S) (.inl (some (vI (rgM I a0 x1)))) (I, S) := by
  have hb := bdF_in h
  obtain ⟨h1, h2, h3⟩ := id h
  unfold rgM
  refine w_X12_ringOf_0 (fun hc => ?_) (fun hc => (if_pos hc).symm)
  rw [if_neg hc]
  have bd : ∀ k : Nat, (k : Int) ≤ bdF (I a0) x1 → -(k : Int) ≤ smI (fun i => f_X12_outer I a0 x1 i - 1) k ∧ smI (fun i => f_X12_outer I a0 x1 i - 1) k ≤ 8 * k := by
    intro k
    induction k with
    | zero => intro _; show -((0 : Nat) : Int) ≤ 0 ∧ (0 : Int) ≤ 8 * ((0 : Nat) : Int); omega
    | succ k ih =>
      intro hk
      have i1 := ih (by omega)
      have i2 := outer_in (x2 := (k : Int)) h (by omega)
      show -((k + 1 : Nat) : Int) ≤ smI (fun i => f_X12_outer I a0 x1 i - 1) k + (f_X12_outer I a0 x1 k - 1) ∧ smI (fun i => f_X12_outer I a0 x1 i - 1) k + (f_X12_outer I a0 x1 k - 1) ≤ 8 * ((k + 1 : Nat) : Int)
      omega
  refine up_loopN (P := fun k => L_X12_ringOf_22 d n0 a0 x1 (smI (fun i => f_X12_outer I a0 x1 i - 1) k) k I S (smI (fun i => f_X12_outer I a0 x1 i - 1) (bdF (I a0) x1).toNat) (I, S)) (n := (bdF (I a0) x1).toNat) ?_ ?_
  · exact w_X12_ringOf_22 (fun hh => absurd hh (by omega)) (fun _ => rfl)
  · intro k hk ih
    have i1 := bd k (by omega)
    have i2 := outer_in (x2 := (k : Int)) h (by omega)
    exact w_X12_ringOf_22 (fun _ => ih) (fun hh => absurd hh (by omega))
/-- whether the neighbours make a map, the reference's -/
def mmA (I : Nat → Nat → Int) (u : Nat) : Bool := allB (fun k => decide (I 164 (((10 * (u : Int)) + 1) + (k : Int)).toNat < (I 156 18))) (I 164 (10 * (u : Int)).toNat).toNat
def mmF (f : Nat → Int) (u k : Int) : Int := fstB (npP f (nrF f u k) (nrF f u (k + 1))) (f (10 * (nrF f u k)).toNat).toNat
def mmB (I : Nat → Nat → Int) (u : Nat) (k : Nat) : Bool := decide (mmF (I 164) u k ≠ -1 ∧ nrF (I 164) (nrF (I 164) u k) (mmF (I 164) u k + 1) = (u : Int))
def mmM (I : Nat → Nat → Int) : Bool := allB (mmA I) ((I 156 18)).toNat && allB (fun u => allB (mmB I u) (I 164 (10 * (u : Int)).toNat).toNat) ((I 156 18)).toNat
theorem c_X12_isMap (hl0 : LyX12 S) (hs : 0 ≤ (I 156 18) ∧ (I 156 18) ≤ 12) (hd : ∀ u : Nat, (u : Int) < (I 156 18) → (1 ≤ I 164 (10 * (u : Int)).toNat ∧ I 164 (10 * (u : Int)).toNat ≤ 9) ∧ ∀ k : Nat, (k : Int) < I 164 (10 * (u : Int)).toNat → 0 ≤ I 164 (((10 * (u : Int)) + 1) + (k : Int)).toNat) : Ca (d + 1) mX12_isMap [vR (some (22, 0, 156))] (I, S) (.inl (some (vI (if mmM I = true then 1 else 0)))) (I, S) := by
  refine w_X12_isMap_0 hl0 ?_
  have tail : allB (mmA I) ((I 156 18)).toNat = true → L_X12_isMap_61 d 156 0 I S (if mmM I = true then 1 else 0) (I, S) := by
    intro hA
    have hM : mmM I = allB (fun u => allB (mmB I u) (I 164 (10 * (u : Int)).toNat).toNat) ((I 156 18)).toNat := by unfold mmM; rw [hA, Bool.true_and]
    rw [hM]
    have hnr : ∀ u : Nat, (u : Int) < (I 156 18) → ∀ k : Int, 0 ≤ nrF (I 164) u k ∧ nrF (I 164) u k < (I 156 18) := fun u hu k => by
      have h1 := hd u hu
      have q1 : 0 ≤ (k + I 164 (10 * (u : Int)).toNat) % I 164 (10 * (u : Int)).toNat := Int.emod_nonneg _ (by omega)
      have q2 : (k + I 164 (10 * (u : Int)).toNat) % I 164 (10 * (u : Int)).toNat < I 164 (10 * (u : Int)).toNat := Int.emod_lt_of_pos _ (by omega)
      obtain ⟨i, hi⟩ := Int.eq_ofNat_of_zero_le q1
      unfold nrF
      rw [hi]
      have h2 := h1.2 i (by omega)
      have h3 := allB_iff.mp (allB_iff.mp hA u (by omega)) i (by omega)
      have h3 := of_decide_eq_true h3
      exact ⟨h2, h3⟩
    refine up_loopN (P := fun u => allB (fun u => allB (mmB I u) (I 164 (10 * (u : Int)).toNat).toNat) u = true → L_X12_isMap_61 d 156 u I S (if allB (fun u => allB (mmB I u) (I 164 (10 * (u : Int)).toNat).toNat) ((I 156 18)).toNat = true then 1 else 0) (I, S)) (n := ((I 156 18)).toNat) ?_ ?_ rfl
    · intro hf
      exact w_X12_isMap_61 hl0 (fun h => absurd h (by omega)) (fun _ => (if_pos hf).symm)
    · intro u hu ihu hf
      have hd1 := hd u (by omega)
      refine w_X12_isMap_61 hl0 (fun _ => ?_) (fun h => absurd h (by omega))
      refine up_loopN (P := fun k => allB (mmB I u) k = true → L_X12_isMap_71 d 156 u k I S (if allB (fun u => allB (mmB I u) (I 164 (10 * (u : Int)).toNat).toNat) ((I 156 18)).toNat = true then 1 else 0) (I, S)) (n := (I 164 (10 * (u : Int)).toNat).toNat) ?_ ?_ rfl
      · intro hg
        exact w_X12_isMap_71 hl0 (fun _ => ihu (allB_succ hf hg)) (fun h => absurd h (by omega)) (fun h => absurd h (by omega)) (r2 := fun h => absurd h (by omega)) (v9 := fun h => absurd h (by omega)) (v10 := fun h => absurd h (by omega)) (v12 := fun h => absurd h (by omega)) (v13 := fun h => absurd h (by omega)) (v11 := fun h => absurd h (by omega))
      · intro k hk ihk hg
        have hv := hnr u (by omega) k
        have hv2 := hd (nrF (I 164) u k).toNat (by omega)
        rw [show (((nrF (I 164) u k).toNat : Nat) : Int) = nrF (I 164) u k by omega] at hv2
        have hfi := fstB_in (npP (I 164) (nrF (I 164) u k) (nrF (I 164) u ((k : Int) + 1))) (I 164 (10 * (nrF (I 164) u k)).toNat).toNat
        have no : mmB I u k = false → (0 : Int) = if allB (fun u => allB (mmB I u) (I 164 (10 * (u : Int)).toNat).toNat) ((I 156 18)).toNat = true then 1 else 0 := fun q => by
          have q2 : allB (mmB I u) (I 164 (10 * (u : Int)).toNat).toNat = false := allB_no hk q
          rw [allB_no (p := fun u => allB (mmB I u) (I 164 (10 * (u : Int)).toNat).toNat) hu q2]; rfl
        exact w_X12_isMap_71 hl0 (fun h => absurd h (by omega)) (fun _ c1 c2 => ihk (allB_succ hg (decide_eq_true ⟨c1, c2⟩))) (fun _ c => no (decide_eq_false (fun q => q.1 c))) (r2 := fun _ c1 c2 => no (decide_eq_false (fun q => c2 q.2)))
  refine up_loopN (P := fun u => allB (mmA I) u = true → L_X12_isMap_2 d 156 u I S (if mmM I = true then 1 else 0) (I, S)) (n := ((I 156 18)).toNat) ?_ ?_ rfl
  · intro hf
    exact w_X12_isMap_2 hl0 (fun _ => tail hf) (fun h => absurd h (by omega))
  · intro u hu ihu hf
    have hd1 := hd u (by omega)
    refine w_X12_isMap_2 hl0 (fun h => absurd h (by omega)) (fun _ => ?_)
    refine up_loopN (P := fun k => allB (fun k => decide (I 164 (((10 * (u : Int)) + 1) + (k : Int)).toNat < (I 156 18))) k = true → L_X12_isMap_12 d 156 u k I S (if mmM I = true then 1 else 0) (I, S)) (n := (I 164 (10 * (u : Int)).toNat).toNat) ?_ ?_ rfl
    · intro hg
      exact w_X12_isMap_12 hl0 (fun _ => ihu (allB_succ hf hg)) (fun h => absurd h (by omega)) (fun h => absurd h (by omega))
    · intro k hk ihk hg
      refine w_X12_isMap_12 hl0 (fun h => absurd h (by omega)) (fun _ c => ihk (allB_succ hg (decide_eq_true c))) (fun _ c => ?_)
      have q2 : mmA I u = false := allB_no hk (decide_eq_false (by omega))
      have : mmM I = false := by unfold mmM; rw [allB_no hu q2, Bool.false_and]
      rw [this]; rfl
end
end
