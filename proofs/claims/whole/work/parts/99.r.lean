/-! ===== least rows ===== -/
noncomputable section
section
variable {d : Nat} {I : Nat → Nat → Int} {S : PS}
def llP (f : Nat → Int) (dg : Int) (s : Nat) : Bool := !(lsC f s 1 dg) && !(lsC f s (dg - 1) dg)
/-- whether a row is the least of those that are one with it -/
def llC (f : Nat → Int) (dg : Int) : Bool := allB (llP f dg) dg.toNat
theorem c_X1_isLeast {x1 : Int} (hl0 : LyX1 S) (hd : 1 ≤ x1 ∧ x1 ≤ 7) : Ca (d + 1) mX1_isLeast [vR (some (12, 0, 121)), vI x1] (I, S) (.inl (some (vI (if llC (I 124) x1 = true then 1 else 0)))) (I, S) := by
  refine w_X1_isLeast_0 hl0 ?_
  refine up_loopN (P := fun k => allB (llP (I 124) x1) k = true → L_X1_isLeast_2 d 121 x1 k I S (if llC (I 124) x1 = true then 1 else 0) (I, S)) (n := x1.toNat) ?_ ?_ rfl
  · intro hf
    exact w_X1_isLeast_2 hl0 (fun h => absurd h (by omega)) (fun _ => (if_pos hf).symm) (r2 := fun h => absurd h (by omega)) (r3 := fun h => absurd h (by omega))
  · intro k hk ih hf
    have no : llP (I 124) x1 k = false → (0 : Int) = if llC (I 124) x1 = true then 1 else 0 := fun q => by
      have : llC (I 124) x1 = false := allB_no hk q
      rw [this]; rfl
    refine w_X1_isLeast_2 hl0 (fun _ c1 c2 => ih (allB_succ hf ?_)) (fun h => absurd h (by omega)) (r2 := fun _ c => no ?_) (r3 := fun _ _ c => no ?_)
    · unfold llP; rw [Bool.eq_false_iff.mpr c1, Bool.eq_false_iff.mpr c2]; rfl
    · unfold llP; rw [c]; rfl
    · unfold llP; rw [c, Bool.not_true, Bool.and_false]
/-- the reference's: compared on the way on and back -/
def lmG (f : Nat → Int) (fr way dg : Int) (k : Nat) : Int := f (((fr + (way * (k : Int))) + dg) % dg).toNat
theorem lm_on (f : Nat → Int) {fr : Nat} {dg : Int} (h : (fr : Int) < dg) (k : Nat) : lmG f fr 1 dg k = f (atI fr 1 dg k).toNat := by
  unfold lmG
  rw [atI_on (by omega), Int.one_mul, Int.add_emod_right]
theorem lm_back (f : Nat → Int) {fr : Nat} {dg : Int} (h : (fr : Int) < dg) (k : Nat) : lmG f fr (-1) dg k = f (atI fr (dg - 1) dg k).toNat := by
  unfold lmG
  rw [atI_back (by omega), show ((fr : Int) + (-1 * (k : Int))) + dg = (fr : Int) + dg - (k : Int) by omega]
theorem c_X12_isLeast {x1 : Int} (hl0 : LyX12 S) (hd : 1 ≤ x1 ∧ x1 ≤ 9) : Ca d mX12_isLeast [vR (some (22, 0, 156)), vI x1] (I, S) (.inl (some (vI (if llC (I 177) x1 = true then 1 else 0)))) (I, S) := by
  refine w_X12_isLeast_0 hl0 ?_
  refine up_loopN (P := fun fr => allB (llP (I 177) x1) fr = true → L_X12_isLeast_2 d 156 x1 fr I S (if llC (I 177) x1 = true then 1 else 0) (I, S)) (n := x1.toNat) ?_ ?_ rfl
  · intro hf
    exact w_X12_isLeast_2 hl0 (fun h => absurd h (by omega)) (fun _ => (if_pos hf).symm)
  · intro fr hfr ihf hf
    have no : llP (I 177) x1 fr = false → (0 : Int) = if llC (I 177) x1 = true then 1 else 0 := fun q => by
      have : llC (I 177) x1 = false := allB_no hfr q
      rw [this]; rfl
    -- one way
    have way : ∀ (w : Int), (w = 1 ∨ w = -1) → ∀ (j k : Nat), (k : Int) + j = x1 → (lessR (lmG (I 177) fr w x1) (I 177) j k = true → (0 : Int) = if llC (I 177) x1 = true then 1 else 0) → (lessR (lmG (I 177) fr w x1) (I 177) j k = false → L_X12_isLeast_9 d 156 x1 fr (w - 2) I S (if llC (I 177) x1 = true then 1 else 0) (I, S)) → L_X12_isLeast_18 d 156 x1 fr w k I S (if llC (I 177) x1 = true then 1 else 0) (I, S) := by
      intro w hw j
      induction j with
      | zero =>
        intro k hk hy hn
        exact w_X12_isLeast_18 hl0 (fun _ _ => hn rfl) (fun _ h => absurd h (by omega)) (fun h => absurd h (by omega)) (fun h => absurd h (by omega)) (fun h => absurd h (by omega)) (fun _ h => absurd h (by omega)) (r2 := fun h => absurd h (by omega))
      | succ j ih =>
        intro k hk hy hn
        have h1 : 0 ≤ (((fr : Int) + (w * (k : Int))) + x1) % x1 := Int.emod_nonneg _ (by omega)
        have h2 : (((fr : Int) + (w * (k : Int))) + x1) % x1 < x1 := Int.emod_lt_of_pos _ (by omega)
        have h3 : w * (k : Int) = k ∨ w * (k : Int) = -k := by rcases hw with rfl | rfl <;> omega
        have hu : lessR (lmG (I 177) fr w x1) (I 177) (j + 1) k = if I 177 ((((fr : Int) + (w * (k : Int))) + x1) % x1).toNat = I 177 k then lessR (lmG (I 177) fr w x1) (I 177) j (k + 1) else decide (I 177 ((((fr : Int) + (w * (k : Int))) + x1) % x1).toNat < I 177 k) := rfl
        rw [hu] at hy hn
        refine w_X12_isLeast_18 hl0 (fun h => absurd h (by omega)) (fun h => absurd h (by omega)) (fun _ _ h => absurd h (by omega)) (fun _ c _ c2 => ?_) (fun _ c => ?_) (fun h => absurd h (by omega)) (r2 := fun _ c _ c2 => ?_)
        · rw [Int.toNat_natCast] at c c2
          rw [if_neg c] at hn
          exact hn (decide_eq_false (by omega))
        · rw [Int.toNat_natCast] at c
          rw [if_pos c] at hy hn
          exact ih (k + 1) (by omega) hy hn
        · rw [Int.toNat_natCast] at c c2
          rw [if_neg c] at hy
          exact hy (decide_eq_true c2)
    have e1 : lessR (lmG (I 177) fr 1 x1) (I 177) x1.toNat 0 = lsC (I 177) fr 1 x1 := lessR_congr (n := x1.toNat) (fun k hk => lm_on _ (by omega) k) (fun _ _ => rfl) _ _ (by omega)
    have e2 : lessR (lmG (I 177) fr (-1) x1) (I 177) x1.toNat 0 = lsC (I 177) fr (x1 - 1) x1 := lessR_congr (n := x1.toNat) (fun k hk => lm_back _ (by omega) k) (fun _ _ => rfl) _ _ (by omega)
    refine w_X12_isLeast_2 hl0 (fun _ => ?_) (fun h => absurd h (by omega))
    refine w_X12_isLeast_9 hl0 (fun h => absurd h (by decide)) (fun _ => ?_)
    refine way 1 (Or.inl rfl) x1.toNat 0 (by omega) (fun q => no ?_) (fun q1 => ?_)
    · unfold llP; rw [← e1, q]; rfl
    · show L_X12_isLeast_9 d 156 x1 fr (-1) I S _ (I, S)
      refine w_X12_isLeast_9 hl0 (fun h => absurd h (by decide)) (fun _ => ?_)
      refine way (-1) (Or.inr rfl) x1.toNat 0 (by omega) (fun q => no ?_) (fun q2 => ?_)
      · unfold llP; rw [← e2, q, Bool.not_true, Bool.and_false]
      · show L_X12_isLeast_9 d 156 x1 fr (-3) I S _ (I, S)
        refine w_X12_isLeast_9 hl0 (fun _ => ?_) (fun h => absurd h (by decide))
        refine ihf (allB_succ hf ?_)
        unfold llP
        rw [← e1, ← e2, q1, q2]; rfl
end
end
