/-! ===== rows that are least; whether there is a map ===== -/
noncomputable section
def lessR (g f : Nat → Int) : Nat → Nat → Bool
  | 0, _ => false
  | j + 1, k => if g k = f k then lessR g f j (k + 1) else decide (g k < f k)
theorem lessR_congr {g g' f f' : Nat → Int} {n : Nat} (hg : ∀ k, k < n → g k = g' k) (hf : ∀ k, k < n → f k = f' k) : ∀ j k, k + j ≤ n → lessR g f j k = lessR g' f' j k
  | 0, _, _ => rfl
  | j + 1, k, h => by
    unfold lessR
    rw [hg k (by omega), hf k (by omega), lessR_congr hg hf j (k + 1) (by omega)]
section
variable {d : Nat} {I : Nat → Nat → Int} {S : PS}
def lsC (f : Nat → Int) (s st dg : Int) : Bool := lessR (fun k => f (atI s st dg k).toNat) f dg.toNat 0
theorem c_X1_isLess {x1 x2 x3 : Int} (hl0 : LyX1 S) (hd : 1 ≤ x3 ∧ x3 ≤ 7) (hs : 0 ≤ x1 ∧ x1 < x3) (ht : 0 ≤ x2 ∧ x2 ≤ x3) : Ca d mX1_isLess [vR (some (12, 0, 121)), vI x1, vI x2, vI x3] (I, S) (.inl (some (vI (if lsC (I 124) x1 x2 x3 = true then 1 else 0)))) (I, S) := by
  refine w_X1_isLess_0 hl0 ?_
  have main : ∀ (j k : Nat), (k : Int) + j = x3 → lessR (fun k => I 124 (atI x1 x2 x3 k).toNat) (I 124) j k = lsC (I 124) x1 x2 x3 → L_X1_isLess_6 d 121 x1 x2 x3 (atI x1 x2 x3 k) k I S (if lsC (I 124) x1 x2 x3 = true then 1 else 0) (I, S) := by
    intro j
    induction j with
    | zero =>
      intro k hk hv
      have := atI_in hs ht k
      refine w_X1_isLess_6 hl0 (fun h => absurd h (by omega)) (fun _ => ?_) (r2 := fun h => absurd h (by omega))
      rw [← hv]; rfl
    | succ j ih =>
      intro k hk hv
      have h1 := atI_in hs ht k
      have hu : lessR (fun k => I 124 (atI x1 x2 x3 k).toNat) (I 124) (j + 1) k = if I 124 (atI x1 x2 x3 k).toNat = I 124 k then lessR (fun k => I 124 (atI x1 x2 x3 k).toNat) (I 124) j (k + 1) else decide (I 124 (atI x1 x2 x3 k).toNat < I 124 k) := rfl
      refine w_X1_isLess_6 hl0 (fun _ c => ?_) (fun h => absurd h (by omega)) (r2 := fun _ c => ?_)
      · rw [Int.toNat_natCast] at c
        exact ih (k + 1) (by omega) (by rw [← hv, hu, if_pos c])
      · rw [Int.toNat_natCast] at c ⊢
        rw [← hv, hu, if_neg c]
        exact ite_iff decide_eq_true_iff.symm
  exact main x3.toNat 0 (by omega) rfl
/-- whether the neighbours told round all spots make a map, the class's -/
def imP (I : Nat → Nat → Int) (T : Nat) (u : Nat) (i : Nat) : Bool := decide (I (T + 6) (((u : Int) * 9) + (i : Int)).toNat < I T 6 ∧ bhd (I (T + 6)) (I (T + 4) (I (T + 6) (((u : Int) * 9) + (i : Int)).toNat).toNat) (I (T + 6) (((u : Int) * 9) + (if I (T + 4) u ≤ (i : Int) + 1 then (0 : Int) else (i : Int) + 1)).toNat) (I (T + 6) (((u : Int) * 9) + (i : Int)).toNat) = (u : Int))
def imC (I : Nat → Nat → Int) (T : Nat) : Bool := allB (fun u => allB (imP I T u) (I (T + 4) u).toNat) (I T 6).toNat
theorem c_X0_isMap {a0 : Nat} (hl0 : LyX0 S a0) (hs : 0 ≤ I a0 6 ∧ I a0 6 ≤ 12) (hd : ∀ u : Nat, (u : Int) < I a0 6 → (0 ≤ I (a0 + 4) u ∧ I (a0 + 4) u ≤ 9) ∧ ∀ k : Nat, (k : Int) < I (a0 + 4) u → 0 ≤ I (a0 + 6) (((u : Int) * 9) + (k : Int)).toNat) : Ca (d + 2) mX0_isMap [vR (some (11, 0, a0))] (I, S) (.inl (some (vI (if imC I a0 = true then 1 else 0)))) (I, S) := by
  refine w_X0_isMap_0 hl0 ?_
  refine up_loopN (P := fun u => allB (fun u => allB (imP I a0 u) (I (a0 + 4) u).toNat) u = true → L_X0_isMap_2 d a0 u I S (if imC I a0 = true then 1 else 0) (I, S)) (n := (I a0 6).toNat) ?_ ?_ rfl
  · intro hf
    exact w_X0_isMap_2 hl0 (fun h => absurd h (by omega)) (fun _ => (if_pos hf).symm)
  · intro u hu ihu hf
    have hd1 := hd u (by omega)
    refine w_X0_isMap_2 hl0 (fun _ => ?_) (fun h => absurd h (by omega))
    refine up_loopN (P := fun i => allB (imP I a0 u) i = true → L_X0_isMap_12 d a0 u i I S (if imC I a0 = true then 1 else 0) (I, S)) (n := (I (a0 + 4) u).toNat) ?_ ?_ rfl
    · intro hg
      have e : I (a0 + 4) (u : Int).toNat = I (a0 + 4) u := by rw [Int.toNat_natCast]
      exact w_X0_isMap_12 hl0 (fun _ => ihu (allB_succ hf hg)) (fun h => absurd h (by omega)) (fun h => absurd h (by omega)) (r2 := fun h => absurd h (by omega)) (v6 := fun h => absurd h (by omega)) (v7 := fun h => absurd h (by omega)) (v8 := fun h => absurd h (by omega))
    · intro i hi ihi hg
      have e : I (a0 + 4) (u : Int).toNat = I (a0 + 4) u := by rw [Int.toNat_natCast]
      have h2 := hd1.2 i (by omega)
      have no : imP I a0 u i = false → (0 : Int) = if imC I a0 = true then 1 else 0 := fun q => by
        have q2 : allB (imP I a0 u) (I (a0 + 4) u).toNat = false := allB_no hi q
        have : imC I a0 = false := allB_no (p := fun u => allB (imP I a0 u) (I (a0 + 4) u).toNat) hu q2
        rw [this]; rfl
      refine w_X0_isMap_12 hl0 (fun h => absurd h (by omega)) (fun _ c1 c2 => ihi (allB_succ hg (decide_eq_true ⟨c1, by rw [e] at c2; exact c2⟩))) (fun _ c => no (decide_eq_false (fun q => by have := q.1; omega))) (r2 := fun _ c1 c2 => no (decide_eq_false (fun q => c2 (by rw [e]; exact q.2)))) (v8 := fun _ c => ?_)
      have := (hd (I (a0 + 6) (((u : Int) * 9) + (i : Int)).toNat).toNat (by omega)).1
      exact this
end
end
