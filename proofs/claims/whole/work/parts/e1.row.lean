/-! ===== rows told by digits, spots that are open, what was noted ===== -/
noncomputable section
section
variable {d : Nat} {I : Nat → Nat → Int} {S : PS}
/-- a remainder by 10 is at most 9 -/
theorem p_rem10 (x : Int) : p_rem x 10 ≤ 9 := by
  unfold p_rem
  rw [Int32.toInt_sub, Int32.toInt_mul, Int32.toInt_div]
  have e10 : (p_I 10).toInt = 10 := by decide
  rw [e10]
  have l1 := Int32.le_toInt (p_I x)
  have l2 := Int32.toInt_lt (p_I x)
  generalize (p_I x).toInt = a at *
  have hq := Int.mul_tdiv_add_tmod a 10
  have h1 := Int.tmod_lt_of_pos a (b := 10) (by decide)
  have h2 := Int.lt_tmod_of_pos a (b := 10) (by decide)
  have h6 : (0 ≤ a ∧ 0 ≤ a.tmod 10) ∨ (a < 0 ∧ a.tmod 10 ≤ 0) := by
    by_cases h : 0 ≤ a
    · exact Or.inl ⟨h, Int.tmod_nonneg 10 h⟩
    · have h7 := Int.tmod_nonneg 10 (show 0 ≤ -a by omega)
      rw [Int.neg_tmod] at h7
      exact Or.inr ⟨by omega, by omega⟩
  generalize a.tdiv 10 = q at *
  generalize a.tmod 10 = r at *
  have bm : ∀ z : Int, -2147483648 ≤ z → z ≤ 2147483647 → z.bmod (2 ^ 32) = z := by
    intro z h3 h4
    show (if z % ((2 ^ 32 : Nat) : Int) < (((2 ^ 32 : Nat) : Int) + 1) / 2 then z % ((2 ^ 32 : Nat) : Int) else z % ((2 ^ 32 : Nat) : Int) - ((2 ^ 32 : Nat) : Int)) = z
    split <;> omega
  rw [bm q (by omega) (by omega), bm (q * 10) (by omega) (by omega), bm (a - q * 10) (by omega) (by omega)]
  omega
/-- what is left of digits behind k of them -/
def lfG (x : Int) : Nat → Int
  | 0 => x
  | k + 1 => p_div (lfG x k) 10
def tkB (x : Int) (n : Nat) : Bool := allB (fun k => decide (5 ≤ p_rem (lfG x k) 10)) n && decide (lfG x n = 0)
def rwG (x : Int) (n j : Nat) : Int := p_rem (lfG x (n - 1 - j)) 10
theorem tkB_no {x : Int} {n k : Nat} (hk : k < n) (h : p_rem (lfG x k) 10 < 5) : tkB x n = false := by
  unfold tkB
  rw [allB_no (p := fun k => decide (5 ≤ p_rem (lfG x k) 10)) hk (decide_eq_false (by omega)), Bool.false_and]
theorem tkB_end {x : Int} {n : Nat} (h : allB (fun k => decide (5 ≤ p_rem (lfG x k) 10)) n = true) : tkB x n = decide (lfG x n = 0) := by
  unfold tkB
  rw [h, Bool.true_and]
theorem tr_C {x1 x2 : Int} {T U : Nat} (hl0 : LyX11 S T U) (hh : 5 ≤ x1 ∧ x1 ≤ 7) : ∃ F, Ca d mX11_takeRow [vR (some (21, 0, 31)), vI x1, vI x2] (I, S) (.inl (some (vI (if tkB x2 x1.toNat = true then 1 else 0)))) (up1 I 152 F, S) ∧ (tkB x2 x1.toNat = true → ∀ j : Nat, j < x1.toNat → F j = rwG x2 x1.toNat j) := by
  have lp : ∀ (t k : Nat) (F : Nat → Int), k + t = x1.toNat → (∀ j : Nat, x1.toNat - k ≤ j → j < x1.toNat → F j = rwG x2 x1.toNat j) → allB (fun k => decide (5 ≤ p_rem (lfG x2 k) 10)) k = true →
      ∃ F', L_X11_takeRow_7 d 31 x1 x2 (lfG x2 k) (x1 - 1 - (k : Int)) (up1 I 152 F) S (if tkB x2 x1.toNat = true then 1 else 0) (up1 I 152 F', S) ∧ (tkB x2 x1.toNat = true → ∀ j : Nat, j < x1.toNat → F' j = rwG x2 x1.toNat j) := by
    intro t
    induction t with
    | zero =>
      intro k F hk hF ha
      obtain rfl : k = x1.toNat := by omega
      refine ⟨F, w_X11_takeRow_7 hl0 (fun h => absurd h (by omega)) (fun _ => ?_) (r2 := fun h => absurd h (by omega)) (e1 := fun _ => rfl) (e2 := fun h => absurd h (by omega)), fun _ j hj => hF j (by omega) hj⟩
      rw [tkB_end ha]
      by_cases h : lfG x2 x1.toNat = 0
      · rw [if_pos h, if_pos (decide_eq_true h)]
      · rw [if_neg h, if_neg (by rw [decide_eq_false h]; decide)]
    | succ t ih =>
      intro k F hk hF ha
      by_cases h5 : 5 ≤ p_rem (lfG x2 k) 10
      · obtain ⟨F', g1, g2⟩ := ih (k + 1) (up1 F (x1 - 1 - (k : Int)).toNat (p_rem (lfG x2 k) 10)) (by omega) (by
          intro j hj hj2
          by_cases e : j = (x1 - 1 - (k : Int)).toNat
          · rw [e, up1_same]
            unfold rwG
            rw [show x1.toNat - 1 - (x1 - 1 - (k : Int)).toNat = k by omega]
          · rw [up1_o F e]
            exact hF j (by omega) hj2) (allB_succ ha (decide_eq_true h5))
        refine ⟨F', w_X11_takeRow_7 hl0 (fun _ _ => ?_) (fun h => absurd h (by omega)) (r2 := fun _ h => absurd h (by omega)) (e1 := fun h => absurd h (by omega)) (e2 := fun _ h => absurd h (by omega)), g2⟩
        rw [up2_up1, up1_same, up1_up1]
        rw [show x1 - 1 - (k : Int) - 1 = x1 - 1 - ((k + 1 : Nat) : Int) by omega]
        exact g1
      · have hn := tkB_no (x := x2) (n := x1.toNat) (k := k) (by omega) (by omega)
        refine ⟨F, w_X11_takeRow_7 hl0 (fun _ h => absurd h (by omega)) (fun h => absurd h (by omega)) (r2 := fun _ _ => by rw [hn]; rfl) (e1 := fun h => absurd h (by omega)) (e2 := fun _ _ => rfl), fun h => by rw [hn] at h; exact absurd h (by decide)⟩
  obtain ⟨F', g1, g2⟩ := lp x1.toNat 0 (I 152) (by omega) (fun j h1 h2 => absurd h1 (by omega)) rfl
  rw [up1_self] at g1
  refine ⟨F', w_X11_takeRow_0 hl0 ?_, g2⟩
  rw [show x1 - 1 - ((0 : Nat) : Int) = x1 - 1 by omega] at g1
  exact g1
/-- the number of a refusal is no part of what rules send -/
theorem sM_156 (I : Nat → Nat → Int) (b k x y z w : Int) : sM (up2 I 156 0 k) b x y z w = sM I b x y z w := by
  have : ∀ n : Nat, snM (up2 I 156 0 k) b x y z w n = snM I b x y z w n := by
    intro n
    induction n with
    | zero => rfl
    | succ n ih => unfold snM; rw [ih]; rfl
  exact this _
theorem hb_heap (I : Nat → Nat → Int) (F : Nat → Int) (k q : Int) : up2 (up1 (up2 I 156 0 k) 177 F) 156 0 q = up1 (up2 I 156 0 q) 177 F := by
  funext a j
  by_cases h : a = 177
  · rw [h, up2_a _ (by decide), up1_same, up1_same]
  · rw [up1_o _ h]
    by_cases h2 : a = 156 ∧ j = 0
    · rw [h2.1, h2.2, up2_same, up2_same]
    · rw [up2_f h2, up2_f h2, up1_o _ h, up2_f h2]
/-- what the reference's hub answers, and the number of its refusal -/
theorem hb_M {x1 x2 x3 : Int} (hl0 : LyX12 S) (hp : (0 ≤ (I 156 13) ∧ (I 156 13) ≤ 4) ∧ ∀ p : Nat, (p : Int) < (I 156 13) → (0 ≤ I 159 ((20 * (p : Int)) + 1).toNat ∧ I 159 ((20 * (p : Int)) + 1).toNat ≤ 7) ∧ I 159 ((20 * (p : Int)) + 1).toNat ≤ I 159 (20 * (p : Int)).toNat) (hr : mRl I 0) : ∃ v k F, Ca (d + 4) mX12_hub [vR (some (22, 0, 156)), vI x1, vI x2, vI x3] (I, S) (.inl (some (vI v))) (up1 (up2 I 156 0 k) 177 F, S) ∧
    (¬(0 ≤ x3 ∧ x3 ≤ 1) → k = 1) ∧ ((0 ≤ x3 ∧ x3 ≤ 1) → ¬((5 ≤ x1 ∧ x1 ≤ 7) ∧ tkB x2 x1.toNat = true) → k = 2) ∧ ((0 ≤ x3 ∧ x3 ≤ 1) → ((5 ≤ x1 ∧ x1 ≤ 7) ∧ tkB x2 x1.toNat = true) → k = 0 ∧ (∀ j : Nat, j < x1.toNat → F j = rwG x2 x1.toNat j) ∧ v = if x3 ≠ 0 then hoM (up1 I 177 F) x1 ((I 156 13)).toNat else chB (up1 I 177 F) 0 x1 x1.toNat) := by
  by_cases h3 : ¬(0 ≤ x3 ∧ x3 ≤ 1)
  · refine ⟨0, 1, I 177, w_X12_hub_0 hl0 (fun h => absurd h h3) (fun h => absurd h h3) (fun h => absurd h h3) (fun _ => rfl) (e2 := fun _ => ?_), fun _ => rfl, fun h => absurd h h3, fun h => absurd h h3⟩
    rw [up2_up2, show up1 (up2 I 156 0 1) 177 (I 177) = up2 I 156 0 1 from up1_self (up2 I 156 0 1) 177]
  have h3 : 0 ≤ x3 ∧ x3 ≤ 1 := Decidable.not_not.mp h3
  by_cases h1 : ¬(5 ≤ x1 ∧ x1 ≤ 7)
  · refine ⟨0, 2, I 177, w_X12_hub_0 hl0 (fun _ h => absurd h h1) (fun _ _ => rfl) (fun _ _ => ?_) (fun h => absurd h3 h) (e2 := fun h => absurd h3 h), fun h => absurd h3 h, fun _ _ => rfl, fun _ h => absurd h.1 h1⟩
    rw [up2_up2, show up1 (up2 I 156 0 2) 177 (I 177) = up2 I 156 0 2 from up1_self (up2 I 156 0 2) 177]
  have h1 : 5 ≤ x1 ∧ x1 ≤ 7 := Decidable.not_not.mp h1
  have lp : ∀ (t k : Nat) (F : Nat → Int), k + t = x1.toNat → (∀ j : Nat, x1.toNat - k ≤ j → j < x1.toNat → F j = rwG x2 x1.toNat j) → allB (fun k => decide (5 ≤ p_rem (lfG x2 k) 10)) k = true →
      ∃ v q F', L_X12_hub_39 d 156 x1 x2 x3 (lfG x2 k) (x1 - 1 - (k : Int)) (up1 (up2 I 156 0 0) 177 F) S v (up1 (up2 I 156 0 q) 177 F', S) ∧ (¬tkB x2 x1.toNat = true → q = 2) ∧ (tkB x2 x1.toNat = true → q = 0 ∧ (∀ j : Nat, j < x1.toNat → F' j = rwG x2 x1.toNat j) ∧ v = if x3 ≠ 0 then hoM (up1 I 177 F') x1 ((I 156 13)).toNat else chB (up1 I 177 F') 0 x1 x1.toNat) := by
    intro t
    induction t with
    | zero =>
      intro k F hk hF ha
      obtain rfl : k = x1.toNat := by omega
      by_cases h : lfG x2 x1.toNat = 0
      · refine ⟨if x3 ≠ 0 then hoM (up1 (up2 I 156 0 0) 177 F) x1 ((I 156 13)).toNat else chB (up1 (up2 I 156 0 0) 177 F) 0 x1 x1.toNat, 0, F, w_X12_hub_39 hl0 (fun h => absurd h (by omega)) (fun _ _ => rfl) (e1 := fun _ _ => rfl) (r2 := fun _ c => absurd h c) (e2 := fun _ c => absurd h c) (r3 := fun h => absurd h (by omega)) (e3 := fun h => absurd h (by omega)) (v1 := fun _ => rfl) (v2 := fun _ _ _ => hp.1) (v3 := fun _ _ _ => by omega) (v4 := fun _ _ _ => hp.2) (v5 := fun _ _ _ => hr.1) (v6 := fun _ _ _ => hr.2) (v7 := fun _ _ _ => by omega) (v8 := fun h => absurd h (by omega)) (v9 := fun _ => rfl), fun c => absurd (by rw [tkB_end ha]; exact decide_eq_true h) c, fun _ => ⟨rfl, fun j hj => hF j (by omega) hj, ?_⟩⟩
        by_cases e : x3 ≠ 0
        · rw [if_pos e, if_pos e, hoM_bt, hoM_bt]
          exact btN_congr (fun p _ => rfl)
        · rw [if_neg e, if_neg e, chB_up, chB_up]
          exact chN_congr (by omega) (fun x y z w => sM_156 I 0 0 x y z w) (fun _ _ => rfl) _ (by omega)
      · refine ⟨0, 2, F, w_X12_hub_39 hl0 (fun h => absurd h (by omega)) (fun _ c => absurd c h) (e1 := fun _ c => absurd c h) (r2 := fun _ _ => rfl) (e2 := fun _ _ => ?_) (r3 := fun h => absurd h (by omega)) (e3 := fun h => absurd h (by omega)) (v1 := fun _ => rfl) (v2 := fun _ c => absurd c h) (v3 := fun _ c => absurd c h) (v4 := fun _ c => absurd c h) (v5 := fun _ c => absurd c h) (v6 := fun _ c => absurd c h) (v7 := fun _ c => absurd c h) (v8 := fun h => absurd h (by omega)) (v9 := fun _ => rfl), fun _ => rfl, fun c => absurd c (by rw [tkB_end ha, decide_eq_false h]; decide)⟩
        exact congrArg (fun h => (h, S)) (hb_heap I F 0 2)
    | succ t ih =>
      intro k F hk hF ha
      have e9 : up2 (up1 (up2 I 156 0 0) 177 F) 177 (x1 - 1 - (k : Int)).toNat (p_rem (lfG x2 k) 10) = up1 (up2 I 156 0 0) 177 (up1 F (x1 - 1 - (k : Int)).toNat (p_rem (lfG x2 k) 10)) := by
        rw [up2_up1, up1_same, up1_up1]
      have e8 : (up2 (up1 (up2 I 156 0 0) 177 F) 177 (x1 - 1 - (k : Int)).toNat (p_rem (lfG x2 k) 10)) 177 (x1 - 1 - (k : Int)).toNat = p_rem (lfG x2 k) 10 := up2_same _ _ _ _
      have h9 := p_rem10 (lfG x2 k)
      by_cases h5 : 5 ≤ p_rem (lfG x2 k) 10
      · obtain ⟨v, q, F', g1, g2⟩ := ih (k + 1) (up1 F (x1 - 1 - (k : Int)).toNat (p_rem (lfG x2 k) 10)) (by omega) (by
          intro j hj hj2
          by_cases e : j = (x1 - 1 - (k : Int)).toNat
          · rw [e, up1_same]
            unfold rwG
            rw [show x1.toNat - 1 - (x1 - 1 - (k : Int)).toNat = k by omega]
          · rw [up1_o F e]
            exact hF j (by omega) hj2) (allB_succ ha (decide_eq_true h5))
        refine ⟨v, q, F', w_X12_hub_39 hl0 (fun _ _ => ?_) (fun h => absurd h (by omega)) (e1 := fun h => absurd h (by omega)) (r2 := fun h => absurd h (by omega)) (e2 := fun h => absurd h (by omega)) (r3 := fun _ c => absurd (by rw [e8]; omega) c) (e3 := fun _ c => absurd (by rw [e8]; omega) c) (v1 := fun _ => rfl) (v2 := fun h => absurd h (by omega)) (v3 := fun h => absurd h (by omega)) (v4 := fun h => absurd h (by omega)) (v5 := fun h => absurd h (by omega)) (v6 := fun h => absurd h (by omega)) (v7 := fun h => absurd h (by omega)) (v8 := fun _ => by omega) (v9 := fun _ => rfl), g2⟩
        rw [e9, show x1 - 1 - (k : Int) - 1 = x1 - 1 - ((k + 1 : Nat) : Int) by omega]
        exact g1
      · have hn := tkB_no (x := x2) (n := x1.toNat) (k := k) (by omega) (by omega)
        refine ⟨0, 2, up1 F (x1 - 1 - (k : Int)).toNat (p_rem (lfG x2 k) 10), w_X12_hub_39 hl0 (fun _ c => absurd c (by rw [e8]; omega)) (fun h => absurd h (by omega)) (e1 := fun h => absurd h (by omega)) (r2 := fun h => absurd h (by omega)) (e2 := fun h => absurd h (by omega)) (r3 := fun _ _ => rfl) (e3 := fun _ _ => ?_) (v1 := fun _ => rfl) (v2 := fun h => absurd h (by omega)) (v3 := fun h => absurd h (by omega)) (v4 := fun h => absurd h (by omega)) (v5 := fun h => absurd h (by omega)) (v6 := fun h => absurd h (by omega)) (v7 := fun h => absurd h (by omega)) (v8 := fun _ => by omega) (v9 := fun _ => rfl), fun _ => rfl, fun c => by rw [hn] at c; exact absurd c (by decide)⟩
        rw [e9]
        exact congrArg (fun h => (h, S)) (hb_heap I _ 0 2)
  obtain ⟨v, q, F', g1, g2, g3⟩ := lp x1.toNat 0 (I 177) (by omega) (fun j h1 h2 => absurd h1 (by omega)) rfl
  rw [show up1 (up2 I 156 0 0) 177 (I 177) = up2 I 156 0 0 from up1_self (up2 I 156 0 0) 177, show x1 - 1 - ((0 : Nat) : Int) = x1 - 1 by omega] at g1
  refine ⟨v, q, F', w_X12_hub_0 hl0 (fun _ _ => g1) (fun _ h => absurd h1 h) (fun _ h => absurd h1 h) (fun h => absurd h3 h) (e2 := fun h => absurd h3 h), fun h => absurd h3 h, fun _ h => g2 (fun c => h ⟨h1, c⟩), fun _ h => g3 h.2⟩
end
end
