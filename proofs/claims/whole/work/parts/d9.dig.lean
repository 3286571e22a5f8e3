/-! ===== figures of codes as natural numbers ===== -/
noncomputable section
theorem isI_nat {m : Nat} (h : m < 2147483648) : isI (m : Int) := ⟨by omega, by omega⟩
theorem fig_nat {m s : Nat} (hm : m < 2147483648) (hs : s < 30) : p_and (p_shr (m : Int) (s : Int)) 3 = ((m / 2 ^ s % 4 : Nat) : Int) := by
  have h4 : m / 2 ^ s % 4 < 4 := Nat.mod_lt _ (by decide)
  refine bt_ext (isI_and _ _) (isI_nat (by omega)) (fun i hi => ?_)
  rw [bt_and, bt_3 hi, bt_nat hi, show (4 : Nat) = 2 ^ 2 from rfl, Nat.testBit_mod_two_pow, Nat.testBit_div_two_pow]
  by_cases h2 : i < 2
  · rw [decide_eq_true h2, Bool.and_true, Bool.true_and, bt_shr (by omega) (by omega), Int.toNat_natCast, bt_nat (by omega), Nat.add_comm]
  · rw [decide_eq_false h2, Bool.and_false, Bool.false_and]
theorem put_nat {v c : Nat} (hv : v < 268435456) (hc : c < 4) : p_or (p_shl (v : Int) 2) (c : Int) = ((4 * v + c : Nat) : Int) := by
  refine bt_ext (isI_or _ _) (isI_nat (by omega)) (fun i hi => ?_)
  rw [bt_or, bt_shl (by decide), bt_nat hi, bt_nat hi, show 4 * v + c = 2 ^ 2 * v + c from rfl, Nat.testBit_two_pow_mul_add v (by omega), decide_eq_true hi, Bool.true_and]
  show (!decide (i < 2) && bt (v : Int) (i - 2) || c.testBit i) = _
  by_cases h2 : i < 2
  · rw [if_pos h2, decide_eq_true h2]; rfl
  · rw [if_neg h2, decide_eq_false h2, Bool.not_false, Bool.true_and, bt_nat (by omega), Nat.testBit_lt_two_pow (show c < 2 ^ i from Nat.lt_of_lt_of_le (show c < 2 ^ 2 by omega) (Nat.pow_le_pow_right (by decide) (by omega))), Bool.or_false]
def dgN (r m k : Nat) : Nat := m / 4 ^ (r - 1 - k) % 4
theorem cAt_nat {r m k : Nat} (hr : r ≤ 7) (hm : m < 2147483648) (hk : k < r) : cAt (r : Int) (m : Int) (k : Int) = (dgN r m k : Int) := by
  have e : (2 * (((r : Int) - 1) - (k : Int))) = ((2 * (r - 1 - k) : Nat) : Int) := by omega
  show p_and (p_shr (m : Int) (2 * (((r : Int) - 1) - (k : Int)))) 3 = _
  rw [e, fig_nat hm (by omega), Nat.pow_mul]
  rfl
/-- names as natural numbers: 4 is none -/
def nmN (r m : Nat) : Nat → Nat × Nat × (Nat → Nat)
  | 0 => (0, 0, fun _ => 4)
  | k + 1 => if (nmN r m k).2.2 (dgN r m k) ≠ 4 then (4 * (nmN r m k).1 + (nmN r m k).2.2 (dgN r m k), (nmN r m k).2.1, (nmN r m k).2.2) else (4 * (nmN r m k).1 + (nmN r m k).2.1, (nmN r m k).2.1 + 1, fun c => if c = dgN r m k then (nmN r m k).2.1 else (nmN r m k).2.2 c)
theorem nm_nat {r m : Nat} (hr : r ≤ 7) (hm : m < 2147483648) : ∀ k : Nat, k ≤ r → (nmS (r : Int) (m : Int) k).1 = ((nmN r m k).1 : Int) ∧ (nmS (r : Int) (m : Int) k).2.1 = ((nmN r m k).2.1 : Int) ∧ (∀ c, c < 4 → (nmS (r : Int) (m : Int) k).2.2 c = (if (nmN r m k).2.2 c = 4 then -1 else ((nmN r m k).2.2 c : Int)) ∧ (nmN r m k).2.2 c ≤ 4) ∧ (nmN r m k).1 < 4 ^ k
  | 0, _ => ⟨rfl, rfl, fun c _ => ⟨rfl, Nat.le_refl 4⟩, by show 0 < 4 ^ 0; decide⟩
  | k + 1, hk => by
    obtain ⟨h1, h2, h3, h4⟩ := nm_nat hr hm k (by omega)
    obtain ⟨g1, g2, g3, g4⟩ := rn_nm (r : Int) (m : Int) k
    have hd : dgN r m k < 4 := Nat.mod_lt _ (by decide)
    have hc := cAt_nat hr hm (show k < r by omega)
    have hp7 : (4 : Nat) ^ k ≤ 4 ^ 7 := Nat.pow_le_pow_right (by decide) (by omega)
    have hp : (4 : Nat) ^ (k + 1) = 4 ^ k * 4 := Nat.pow_succ 4 k
    have hsN : nmS (r : Int) (m : Int) (k + 1) = if (nmS (r : Int) (m : Int) k).2.2 (cAt (r : Int) (m : Int) k).toNat ≠ -1 then (p_or (p_shl (nmS (r : Int) (m : Int) k).1 2) ((nmS (r : Int) (m : Int) k).2.2 (cAt (r : Int) (m : Int) k).toNat), (nmS (r : Int) (m : Int) k).2.1, (nmS (r : Int) (m : Int) k).2.2) else (p_or (p_shl (nmS (r : Int) (m : Int) k).1 2) (nmS (r : Int) (m : Int) k).2.1, (nmS (r : Int) (m : Int) k).2.1 + 1, up1 (nmS (r : Int) (m : Int) k).2.2 (cAt (r : Int) (m : Int) k).toNat (nmS (r : Int) (m : Int) k).2.1) := rfl
    have hsM : nmN r m (k + 1) = if (nmN r m k).2.2 (dgN r m k) ≠ 4 then (4 * (nmN r m k).1 + (nmN r m k).2.2 (dgN r m k), (nmN r m k).2.1, (nmN r m k).2.2) else (4 * (nmN r m k).1 + (nmN r m k).2.1, (nmN r m k).2.1 + 1, fun c => if c = dgN r m k then (nmN r m k).2.1 else (nmN r m k).2.2 c) := rfl
    rw [hc, Int.toNat_natCast] at hsN
    obtain ⟨e1, e2⟩ := h3 (dgN r m k) hd
    by_cases hn : (nmN r m k).2.2 (dgN r m k) = 4
    · rw [if_pos hn] at e1
      have hT := nmT_in hd e1
      rw [← g3, h2] at hT
      rw [if_neg (fun q => q e1)] at hsN
      rw [if_neg (fun q => q hn)] at hsM
      rw [hsN, hsM, h1, h2]
      refine ⟨put_nat (by omega) (by omega), rfl, fun c hc4 => ?_, by show 4 * (nmN r m k).1 + (nmN r m k).2.1 < _; omega⟩
      show up1 _ (dgN r m k) _ c = (if (if c = dgN r m k then (nmN r m k).2.1 else (nmN r m k).2.2 c) = 4 then (-1 : Int) else (((if c = dgN r m k then (nmN r m k).2.1 else (nmN r m k).2.2 c) : Nat) : Int)) ∧ (if c = dgN r m k then (nmN r m k).2.1 else (nmN r m k).2.2 c) ≤ 4
      by_cases e : c = dgN r m k
      · rw [if_pos e, e, up1_same, if_neg (by omega)]
        exact ⟨rfl, by omega⟩
      · rw [if_neg e, up1_o _ e]
        exact h3 c hc4
    · rw [if_neg hn] at e1
      rw [if_pos (by omega)] at hsN
      rw [if_pos hn] at hsM
      rw [hsN, hsM, h1, e1]
      exact ⟨put_nat (by omega) (by omega), h2, h3, by show 4 * (nmN r m k).1 + (nmN r m k).2.2 (dgN r m k) < _; omega⟩
/-- properness by natural numbers -/
def prN (r m : Nat) : Bool := allB (fun k => decide (dgN r m k ≠ dgN r m ((k + 1) % r))) r
theorem pr_nat {r m : Nat} (hr : 1 ≤ r ∧ r ≤ 7) (hm : m < 2147483648) : isPr (r : Int) (m : Int) = prN r m := by
  unfold isPr prN
  rw [Int.toNat_natCast]
  refine allB_congr (fun k hk => ?_)
  have hk2 : (k + 1) % r < r := Nat.mod_lt _ (by omega)
  have e : ((k : Int) + 1) % (r : Int) = (((k + 1) % r : Nat) : Int) := by
    rw [Int.natCast_emod]; rfl
  rw [e, cAt_nat hr.2 hm hk, cAt_nat hr.2 hm hk2]
  by_cases q : dgN r m k = dgN r m ((k + 1) % r)
  · rw [decide_eq_false (show ¬((dgN r m k : Int) ≠ (dgN r m ((k + 1) % r) : Int)) from fun w => w (by rw [q])), decide_eq_false (fun w => w q)]
  · rw [decide_eq_true (show (dgN r m k : Int) ≠ (dgN r m ((k + 1) % r) : Int) by omega), decide_eq_true q]
end
