/-! ===== pieces held ===== -/
noncomputable section
theorem emod_pred {q dg : Int} (hd : 1 ≤ dg) : (q - 1) % dg = if q % dg = 0 then dg - 1 else q % dg - 1 := by
  have h1 : 0 ≤ q % dg := Int.emod_nonneg _ (by omega)
  have h2 : q % dg < dg := Int.emod_lt_of_pos _ (by omega)
  have h3 : dg * (q / dg) + q % dg = q := Int.mul_ediv_add_emod q dg
  by_cases h : q % dg = 0
  · rw [if_pos h]
    have e : q - 1 = (dg - 1) + dg * (q / dg - 1) := by rw [Int.mul_sub]; omega
    rw [e, Int.add_mul_emod_self_left, Int.emod_eq_of_lt (by omega) (by omega)]
  · rw [if_neg h]
    have e : q - 1 = (q % dg - 1) + dg * (q / dg) := by omega
    rw [e, Int.add_mul_emod_self_left, Int.emod_eq_of_lt (by omega) (by omega)]
theorem emod_succ {q dg : Int} (hd : 1 ≤ dg) : (q + 1) % dg = if q % dg + 1 < dg then q % dg + 1 else 0 := by
  have h1 : 0 ≤ q % dg := Int.emod_nonneg _ (by omega)
  have h2 : q % dg < dg := Int.emod_lt_of_pos _ (by omega)
  rw [← Int.emod_add_emod]
  by_cases h : q % dg + 1 < dg
  · rw [if_pos h, Int.emod_eq_of_lt (by omega) h]
  · rw [if_neg h, show q % dg + 1 = dg by omega, Int.emod_self]
theorem atI_on {s dg : Int} (h : 0 ≤ s ∧ s < dg) : ∀ k : Nat, atI s 1 dg k = (s + (k : Int)) % dg
  | 0 => by show s = (s + 0) % dg; rw [Int.add_zero, Int.emod_eq_of_lt h.1 h.2]
  | k + 1 => by
    have h1 : 0 ≤ (s + (k : Int)) % dg := Int.emod_nonneg _ (by omega)
    have h2 : (s + (k : Int)) % dg < dg := Int.emod_lt_of_pos _ (by omega)
    unfold atI
    rw [atI_on h k, show s + ((k + 1 : Nat) : Int) = s + (k : Int) + 1 by omega, emod_succ (by omega)]
    split <;> omega
theorem atI_back {s dg : Int} (h : 0 ≤ s ∧ s < dg) : ∀ k : Nat, atI s (dg - 1) dg k = (s + dg - (k : Int)) % dg
  | 0 => by show s = (s + dg - 0) % dg; rw [Int.sub_zero, Int.add_emod_right, Int.emod_eq_of_lt h.1 h.2]
  | k + 1 => by
    have h1 : 0 ≤ (s + dg - (k : Int)) % dg := Int.emod_nonneg _ (by omega)
    have h2 : (s + dg - (k : Int)) % dg < dg := Int.emod_lt_of_pos _ (by omega)
    unfold atI
    rw [atI_back h k, show s + dg - ((k + 1 : Nat) : Int) = s + dg - (k : Int) - 1 by omega, emod_pred (by omega)]
    split <;> split <;> omega
theorem allB_congr {p q : Nat → Bool} : ∀ {n : Nat}, (∀ k, k < n → p k = q k) → allB p n = allB q n
  | 0, _ => rfl
  | n + 1, h => by
    show (allB p n && p n) = (allB q n && q n)
    rw [allB_congr (n := n) (fun k hk => h k (by omega)), h n (by omega)]
theorem anyB_congr {p q : Nat → Bool} : ∀ {n : Nat}, (∀ k, k < n → p k = q k) → anyB p n = anyB q n
  | 0, _ => rfl
  | n + 1, h => by
    show (anyB p n || p n) = (anyB q n || q n)
    rw [anyB_congr (n := n) (fun k hk => h k (by omega)), h n (by omega)]
theorem fstB_congr {p q : Nat → Bool} : ∀ {n : Nat}, (∀ k, k < n → p k = q k) → fstB p n = fstB q n
  | 0, _ => rfl
  | n + 1, h => by
    show (if fstB p n ≠ -1 then fstB p n else if p n = true then (n : Int) else -1) = (if fstB q n ≠ -1 then fstB q n else if q n = true then (n : Int) else -1)
    rw [fstB_congr (n := n) (fun k hk => h k (by omega)), h n (by omega)]
/-- whether a piece stands somewhere in a row, on or back -/
def hlP (n dg : Int) (sp f : Nat → Int) (fr : Nat) : Bool := allB (fun k => decide (f (((fr : Int) + (k : Int)) % dg).toNat = sp k)) n.toNat || allB (fun k => decide (f (((fr : Int) + dg - (k : Int)) % dg).toNat = sp k)) n.toNat
def hlB (hub n dg : Int) (sp f : Nat → Int) : Bool := decide (hub = dg) && anyB (hlP n dg sp f) dg.toNat
section
variable {d : Nat} {I : Nat → Nat → Int} {S : PS}
theorem hdM_hl (I : Nat → Nat → Int) (p dg : Int) : hdM I p dg = hlB (I 159 (20 * p).toNat) (I 159 ((20 * p) + 1).toNat) dg (fun k => I 159 (((20 * p) + 2) + (k : Int)).toNat) (I 177) := rfl
theorem heC_hl {a0 a2 : Nat} {dg : Int} (hd : 1 ≤ dg) : heC I a0 a2 dg = hlB (I a0 0) (I a0 1) dg (I (a0 + 1)) (I a2) := by
  unfold heC hlB
  have e1 : decide (dg = I a0 0) = decide (I a0 0 = dg) := by
    by_cases h : dg = I a0 0
    · rw [decide_eq_true h, decide_eq_true h.symm]
    · rw [decide_eq_false h, decide_eq_false (fun q => h q.symm)]
  rw [e1]
  congr 1
  refine anyB_congr (fun s hs => ?_)
  unfold heP hlP
  congr 1
  · refine allB_congr (fun k hk => ?_)
    unfold stP
    rw [atI_on (by omega)]
  · refine allB_congr (fun k hk => ?_)
    unfold stP
    rw [atI_back (by omega)]
theorem p_or_0 {x : Int} (h : isI x) : p_or x 0 = x := by
  apply bt_ext (isI_or _ _) h
  intro i _
  rw [bt_or, bt_zero, Bool.or_false]
/-- some of the first n, as bits -/
def btN (P : Nat → Bool) : Nat → Int
  | 0 => 0
  | k + 1 => if P k = true then p_or (btN P k) (p_shl 1 (k : Int)) else btN P k
theorem btN_isI (P : Nat → Bool) : ∀ n, isI (btN P n)
  | 0 => ⟨show (-2147483648 : Int) ≤ 0 by decide, show (0 : Int) ≤ 2147483647 by decide⟩
  | n + 1 => by
    unfold btN
    split
    · exact isI_or _ _
    · exact btN_isI P n
theorem btN_bt {P : Nat → Bool} : ∀ {n : Nat}, n ≤ 32 → ∀ i, bt (btN P n) i = (decide (i < n) && P i)
  | 0, _, i => by show bt 0 i = _; rw [bt_zero, decide_eq_false (by omega), Bool.false_and]
  | n + 1, hn, i => by
    have ih := btN_bt (P := P) (n := n) (by omega) i
    unfold btN
    by_cases h : P n = true
    · rw [if_pos h, bt_or, ih, bt_bit (by omega), Int.toNat_natCast]
      by_cases h1 : i = n
      · subst h1; rw [decide_eq_true rfl, Bool.or_true, decide_eq_true (by omega), h]; rfl
      · rw [decide_eq_false h1, Bool.or_false]
        by_cases h2 : i < n
        · rw [decide_eq_true h2, decide_eq_true (by omega)]
        · rw [decide_eq_false h2, decide_eq_false (by omega)]
    · rw [if_neg h, ih]
      by_cases h1 : i = n
      · subst h1; rw [Bool.eq_false_iff.mpr h, Bool.and_false, Bool.and_false]
      · by_cases h2 : i < n
        · rw [decide_eq_true h2, decide_eq_true (by omega)]
        · rw [decide_eq_false h2, decide_eq_false (by omega)]
theorem btN_congr {P Q : Nat → Bool} : ∀ {n : Nat}, (∀ k, k < n → P k = Q k) → btN P n = btN Q n
  | 0, _ => rfl
  | n + 1, h => by
    unfold btN
    rw [btN_congr (n := n) (fun k hk => h k (by omega)), h n (by omega)]
theorem hoM_bt (I : Nat → Nat → Int) (dg : Int) : ∀ n : Nat, hoM I dg n = btN (fun p => hdM I p dg) n
  | 0 => rfl
  | n + 1 => by
    unfold hoM btN
    rw [hoM_bt I dg n]
    by_cases h : hdM I n dg = true
    · rw [if_neg (fun q => q h), if_pos h]
    · rw [if_pos h, if_neg h, p_or_0 (btN_isI _ _)]
theorem hoC_bt (I : Nat → Nat → Int) (a0 a2 : Nat) (dg : Int) : ∀ n : Nat, hoC I a0 a2 dg n = btN (fun p => heC I (a0 + 7 + 9 * p) a2 dg) n
  | 0 => rfl
  | n + 1 => by
    unfold hoC btN
    rw [hoC_bt I a0 a2 dg n, Int.toNat_natCast]
    by_cases h : heC I (a0 + 7 + 9 * n) a2 dg = true
    · rw [if_neg (fun q => q h), if_pos h]
    · rw [if_pos h, if_neg h]
end
end
