noncomputable section
theorem fstB_none {p : Nat → Bool} : ∀ {n : Nat}, (∀ j, j < n → p j = false) → fstB p n = -1
  | 0, _ => rfl
  | n + 1, h => fstB_succ (fstB_none (fun j hj => h j (by omega))) (h n (by omega))
theorem fstB_uniq {p : Nat → Bool} {n m : Nat} (hm : m < n) (hp : p m = true) (hu : ∀ j, j < m → p j = false) : fstB p n = m := fstB_here (fstB_none hu) hp hm
section
variable {d : Nat} {I : Nat → Nat → Int} {S : PS}
def bhC (I : Nat → Nat → Int) (a0 a2 a3 : Nat) (dg : Int) : Nat → Int
  | 0 => 10 * (6 - dg)
  | k + 1 => bhC I a0 a2 a3 dg k + ((I a3 (k : Int).toNat) * (ntC I a0 a2 k dg dg.toNat))
theorem bhC_le {a0 a2 a3 : Nat} {dg : Int} (hd : 0 ≤ dg ∧ dg ≤ 9) : ∀ {n : Nat}, (∀ k : Nat, k < n → 0 ≤ I a3 k ∧ I a3 k ≤ 99) → -100 - 891 * n ≤ bhC I a0 a2 a3 dg n ∧ bhC I a0 a2 a3 dg n ≤ 100 + 891 * n
  | 0, _ => by unfold bhC; omega
  | n + 1, h => by
    have h1 := bhC_le (a0 := a0) (a2 := a2) hd (n := n) (fun k hk => h k (by omega))
    have h2 := h n (by omega)
    have h3 := ntC_le I a0 a2 n dg dg.toNat
    have h4 := abs_mul_le (x := I a3 n) (y := ntC I a0 a2 n dg dg.toNat) (m := 99) (n := 9) (by omega) (by omega)
    unfold bhC
    rw [Int.toNat_natCast]
    omega
theorem c_X7_behind {a0 n2 a2 n3 a3 : Nat} {x1 : Int} (hl0 : LyX7 S a0) (hn2 : n2 ≤ 9) (hd : 0 ≤ x1 ∧ x1 ≤ n2) (hn : n3 = 6) (hc : 0 ≤ I a0 0 ∧ I a0 0 ≤ 6) (ha : ∀ k : Nat, (k : Int) < I a0 0 → 0 ≤ I a3 k ∧ I a3 k ≤ 99) : Ca (d + 3) mX7_behind [vR (some (17, 0, a0)), vI x1, vR (some (0, n2, a2)), vR (some (0, n3, a3))] (I, S) (.inl (some (vI (bhC I a0 a2 a3 x1 (I a0 0).toNat)))) (I, S) := by
  refine w_X7_behind_0 hl0 ?_
  refine up_loopN (P := fun k => L_X7_behind_9 d a0 x1 n2 a2 n3 a3 (bhC I a0 a2 a3 x1 k) k I S (bhC I a0 a2 a3 x1 (I a0 0).toNat) (I, S)) (n := (I a0 0).toNat) ?_ ?_
  · exact w_X7_behind_9 hl0 (fun h => absurd h (by omega)) (fun _ => rfl)
  · intro k hk ih
    have h1 := bhC_le (I := I) (a0 := a0) (a2 := a2) (a3 := a3) (dg := x1) (by omega) (n := k) (fun j hj => ha j (by omega))
    have h2 := ha k (by omega)
    have h3 := ntC_le I a0 a2 k x1 x1.toNat
    have h4 := abs_mul_le (x := I a3 (k : Int).toNat) (y := ntC I a0 a2 k x1 x1.toNat) (m := 99) (n := 9) (by rw [Int.toNat_natCast]; omega) (by omega)
    exact w_X7_behind_9 hl0 (fun _ => ih) (fun h => absurd h (by omega))
/-- pieces that are held, as bits -/
def hoC (I : Nat → Nat → Int) (a0 a2 : Nat) (dg : Int) : Nat → Int
  | 0 => 0
  | k + 1 => if ¬(heC I (a0 + 7 + 9 * (k : Int).toNat) a2 dg = true) then (hoC I a0 a2 dg k : Int) else p_or (hoC I a0 a2 dg k) (p_shl 1 (k : Int))
theorem c_X0_heldPieces {a0 n2 a2 : Nat} {x1 : Int} (hl0 : LyX0 S a0) (hn2 : n2 ≤ 9) (hd : 1 ≤ x1 ∧ x1 ≤ n2) (hc : 0 ≤ I a0 1 ∧ I a0 1 ≤ 4) (hk : ∀ p : Nat, (p : Int) < I a0 1 → 0 ≤ I (a0 + 7 + 9 * p) 1 ∧ I (a0 + 7 + 9 * p) 1 ≤ 7) : Ca (d + 2) mX0_heldPieces [vR (some (11, 0, a0)), vI x1, vR (some (0, n2, a2))] (I, S) (.inl (some (vI (hoC I a0 a2 x1 (I a0 1).toNat)))) (I, S) := by
  refine w_X0_heldPieces_0 hl0 ?_
  refine up_loopN (P := fun k => L_X0_heldPieces_5 d a0 x1 n2 a2 (hoC I a0 a2 x1 k) k I S (hoC I a0 a2 x1 (I a0 1).toNat) (I, S)) (n := (I a0 1).toNat) ?_ ?_
  · exact w_X0_heldPieces_5 hl0 (fun h => absurd h (by omega)) (fun _ => rfl) (v4 := fun h => absurd h (by omega))
  · intro k hk2 ih
    exact w_X0_heldPieces_5 hl0 (fun _ => ih) (fun h => absurd h (by omega)) (v4 := fun _ => hk k (by omega))
def caC (f : Nat → Int) : Nat → Int
  | 0 => 0
  | k + 1 => caC f k + (10 * (6 - f (k : Int).toNat))
theorem caC_le {f : Nat → Int} : ∀ {n : Nat}, (∀ k, k < n → 0 ≤ f k ∧ f k ≤ 9) → -30 * (n : Int) ≤ caC f n ∧ caC f n ≤ 60 * n
  | 0, _ => by unfold caC; omega
  | n + 1, h => by
    have h1 := caC_le (n := n) (fun k hk => h k (by omega))
    have h2 := h n (by omega)
    unfold caC
    rw [Int.toNat_natCast]
    omega
theorem c_X11_chargeAhead {T U : Nat} (hl0 : LyX11 S T U) (hs : 0 ≤ I T 6 ∧ I T 6 ≤ 12) (hd : ∀ k : Nat, (k : Int) < I T 6 → 0 ≤ I (T + 4) k ∧ I (T + 4) k ≤ 9) : Ca (d + 1) mX11_chargeAhead [vR (some (21, 0, 31))] (I, S) (.inl (some (vI (caC (I (T + 4)) (I T 6).toNat)))) (I, S) := by
  refine w_X11_chargeAhead_0 hl0 ?_
  refine up_loopN (P := fun k => L_X11_chargeAhead_4 d 31 (caC (I (T + 4)) k) k I S (caC (I (T + 4)) (I T 6).toNat) (I, S)) (n := (I T 6).toNat) ?_ ?_
  · exact w_X11_chargeAhead_4 hl0 (fun h => absurd h (by omega)) (fun _ => rfl)
  · intro k hk ih
    have h1 := caC_le (f := I (T + 4)) (n := k) (fun j hj => hd j (by omega))
    have h2 : 0 ≤ I (T + 4) (k : Int).toNat ∧ I (T + 4) (k : Int).toNat ≤ 9 := hd k (by omega)
    exact w_X11_chargeAhead_4 hl0 (fun _ => ih) (fun h => absurd h (by omega))
/-- RUNS switched, the class's -/
def tnS (r code pr set : Int) (g : Nat → Int) : Nat → Int
  | 0 => code
  | k + 1 => if p_and (p_shr set (g (k : Int).toNat)) 1 = 0 then (tnS r code pr set g k : Int) else p_xor (tnS r code pr set g k) (p_shl (pr + 1) (2 * (r - 1 - (k : Int))))
theorem c_X6_turned {a0 : Nat} {x1 x2 x3 : Int} (hl0 : LyX6 S a0) (hr : 0 ≤ I a0 0 ∧ I a0 0 ≤ 7) (hp : 0 ≤ x2 ∧ x2 ≤ 2) : Ca d mX6_turned [vR (some (16, 0, a0)), vI x1, vI x2, vI x3] (I, S) (.inl (some (vI (tnS (I a0 0) x1 x2 x3 (I (a0 + 2)) (I a0 0).toNat)))) (I, S) := by
  refine w_X6_turned_0 hl0 ?_
  refine up_loopN (P := fun k => L_X6_turned_6 d a0 x1 x2 x3 (tnS (I a0 0) x1 x2 x3 (I (a0 + 2)) k) k I S (tnS (I a0 0) x1 x2 x3 (I (a0 + 2)) (I a0 0).toNat) (I, S)) (n := (I a0 0).toNat) ?_ ?_
  · exact w_X6_turned_6 hl0 (fun h => absurd h (by omega)) (fun _ => rfl)
  · intro k hk ih
    exact w_X6_turned_6 hl0 (fun _ => ih) (fun h => absurd h (by omega))
theorem c_X6_find {a0 : Nat} {x1 : Int} (hl0 : LyX6 S a0) (hn : 0 ≤ I a0 1 ∧ I a0 1 ≤ 91) (hs : ∀ i j : Nat, i < j → (j : Int) < I a0 1 → I (a0 + 1) i < I (a0 + 1) j) : Ca d mX6_find [vR (some (16, 0, a0)), vI x1] (I, S) (.inl (some (vI (fstB (fun k => decide (I (a0 + 1) k = x1)) (I a0 1).toNat)))) (I, S) := by
  refine w_X6_find_0 hl0 ?_
  have main : ∀ (j : Nat) (x2 x3 x4 : Int), x4 + j = 91 → 0 ≤ x4 → 0 ≤ x2 → x3 < I a0 1 → -1 ≤ x3 → x3 - x2 + 1 ≤ j → (∀ i : Nat, (i : Int) < I a0 1 → I (a0 + 1) i = x1 → x2 ≤ i ∧ (i : Int) ≤ x3) → L_X6_find_12 d a0 x1 x2 x3 x4 I S (fstB (fun k => decide (I (a0 + 1) k = x1)) (I a0 1).toNat) (I, S) := by
    intro j
    induction j with
    | zero =>
      intro x2 x3 x4 h1 h2 h3 h4 h5 h6 h7
      refine w_X6_find_12 hl0 (fun h => absurd h (by omega)) (fun _ => ?_) (r2 := fun h => absurd h (by omega)) (r3 := fun h => absurd h (by omega))
      exact (fstB_none (fun i hi => decide_eq_false (fun q => by have := h7 i (by omega) q; omega))).symm
    | succ j ih =>
      intro x2 x3 x4 h1 h2 h3 h4 h5 h6 h7
      refine w_X6_find_12 hl0 (fun _ c1 c2 => ?_) (fun h => absurd h (by omega)) (r2 := fun _ c => ?_) (r3 := fun _ c1 c2 => ?_)
      · by_cases hc : x1 ≤ I (a0 + 1) ((x2 + x3) / 2).toNat
        · rw [if_pos hc, if_pos hc]
          refine ih _ _ _ (by omega) (by omega) h3 (by omega) (by omega) (by omega) ?_
          intro i hi he
          have := h7 i hi he
          refine ⟨this.1, ?_⟩
          by_cases h8 : (i : Int) ≤ (x2 + x3) / 2 - 1
          · exact h8
          · by_cases h9 : i = ((x2 + x3) / 2).toNat
            · rw [← h9] at c2; exact absurd he c2
            · have := hs ((x2 + x3) / 2).toNat i (by omega) hi
              omega
        · rw [if_neg hc, if_neg hc]
          refine ih _ _ _ (by omega) (by omega) (by omega) h4 (by omega) (by omega) ?_
          intro i hi he
          have := h7 i hi he
          refine ⟨?_, this.2⟩
          by_cases h8 : (x2 + x3) / 2 + 1 ≤ (i : Int)
          · exact h8
          · by_cases h9 : i = ((x2 + x3) / 2).toNat
            · rw [← h9] at c2; exact absurd he c2
            · have := hs i ((x2 + x3) / 2).toNat (by omega) (by omega)
              omega
      · exact (fstB_none (fun i hi => decide_eq_false (fun q => by have := h7 i (by omega) q; omega))).symm
      · have e := fstB_uniq (p := fun k => decide (I (a0 + 1) k = x1)) (n := (I a0 1).toNat) (m := ((x2 + x3) / 2).toNat) (by omega) (decide_eq_true c2) (fun i hi => decide_eq_false (fun q => by have := hs i ((x2 + x3) / 2).toNat hi (by omega); omega))
        rw [e]
        omega
  exact main 91 0 (I a0 1 - 1) 0 (by omega) (by omega) (by omega) (by omega) (by omega) (by omega) (fun i hi _ => by omega)
end
end
