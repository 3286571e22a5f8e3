/-! ===== runs and what switching them makes, as natural numbers ===== -/
noncomputable section
def fzN (r m q k : Nat) : Bool := Nat.beq (dgN r m k) 0 || Nat.beq (dgN r m k) (q + 1)
def rkN (r m q : Nat) : Nat → Nat
  | 0 => 0
  | k + 1 => cond (fzN r m q (k + 1) == fzN r m q k) (rkN r m q k) (rkN r m q k + 1)
def rmN (r m q : Nat) : Bool := !(Nat.beq (rkN r m q (r - 1)) 0) && fzN r m q (r - 1)
def rcN (r m q : Nat) : Nat := cond (rmN r m q) (rkN r m q (r - 1)) (rkN r m q (r - 1) + 1)
def raN (r m q k : Nat) : Nat := cond (rmN r m q && Nat.beq (rkN r m q k) (rkN r m q (r - 1))) 0 (rkN r m q k)
def otN (c q : Nat) : Nat := cond (Nat.beq c 0) (q + 1) (cond (Nat.beq c (q + 1)) 0 (5 - q - c))
def swD (r m q s k : Nat) : Nat := cond (s.testBit (raN r m q k)) (otN (dgN r m k) q) (dgN r m k)
def swN (r m q s : Nat) : Nat → Nat
  | 0 => 0
  | k + 1 => 4 * swN r m q s k + swD r m q s k
def tgN (r m q s : Nat) : Nat := (nmN r (swN r m q s r) r).1
theorem beq_iff {a b : Nat} : Nat.beq a b = true ↔ a = b := ⟨Nat.eq_of_beq_eq_true, fun h => by rw [h]; exact Nat.beq_refl b⟩
theorem dgN_lt (r m k : Nat) : dgN r m k < 4 := Nat.mod_lt _ (by decide)
theorem fz_nat {r m q k : Nat} (hr : r ≤ 7) (hm : m < 2147483648) (hk : k < r) : fzB (r : Int) (m : Int) (q : Int) k = fzN r m q k := by
  unfold fzB fzN
  rw [cAt_nat hr hm hk]
  by_cases h : dgN r m k = 0 ∨ dgN r m k = q + 1
  · rw [decide_eq_true (show ((dgN r m k : Nat) : Int) = 0 ∨ ((dgN r m k : Nat) : Int) = (q : Int) + 1 by omega)]
    rcases h with h | h
    · rw [beq_iff.mpr h]; rfl
    · rw [beq_iff.mpr h, Bool.or_true]
  · rw [decide_eq_false (show ¬(((dgN r m k : Nat) : Int) = 0 ∨ ((dgN r m k : Nat) : Int) = (q : Int) + 1) by omega)]
    cases e1 : Nat.beq (dgN r m k) 0 with
    | true => exact absurd (Or.inl (beq_iff.mp e1)) h
    | false =>
      cases e2 : Nat.beq (dgN r m k) (q + 1) with
      | true => exact absurd (Or.inr (beq_iff.mp e2)) h
      | false => rfl
theorem rk_nat {r m q : Nat} (hr : r ≤ 7) (hm : m < 2147483648) : ∀ k : Nat, k < r → rnK (r : Int) (m : Int) (q : Int) k = (rkN r m q k : Int)
  | 0, _ => rfl
  | k + 1, hk => by
    have ih := rk_nat (q := q) hr hm k (by omega)
    show (if fzB (r : Int) (m : Int) (q : Int) (k + 1) = fzB (r : Int) (m : Int) (q : Int) k then rnK (r : Int) (m : Int) (q : Int) k else rnK (r : Int) (m : Int) (q : Int) k + 1) = ((cond (fzN r m q (k + 1) == fzN r m q k) (rkN r m q k) (rkN r m q k + 1) : Nat) : Int)
    rw [fz_nat hr hm hk, fz_nat hr hm (show k < r by omega), ih]
    cases fzN r m q (k + 1) <;> cases fzN r m q k <;> rfl
theorem rm_nat {r m q : Nat} (hr : 1 ≤ r ∧ r ≤ 7) (hm : m < 2147483648) : rnM (r : Int) (m : Int) (q : Int) = rmN r m q := by
  unfold rnM rmN
  rw [Int.toNat_natCast, rk_nat hr.2 hm (r - 1) (by omega), fz_nat hr.2 hm (show r - 1 < r by omega)]
  congr 1
  cases e : Nat.beq (rkN r m q (r - 1)) 0 with
  | true => rw [beq_iff.mp e]; rfl
  | false =>
    have : rkN r m q (r - 1) ≠ 0 := fun h => by rw [beq_iff.mpr h] at e; cases e
    rw [decide_eq_true (show ((rkN r m q (r - 1) : Nat) : Int) ≠ 0 by omega)]; rfl
theorem rc_nat {r m q : Nat} (hr : 1 ≤ r ∧ r ≤ 7) (hm : m < 2147483648) : rnC (r : Int) (m : Int) (q : Int) = (rcN r m q : Int) := by
  unfold rnC rcN
  rw [Int.toNat_natCast, rk_nat hr.2 hm (r - 1) (by omega), rm_nat hr hm]
  cases rmN r m q <;> rfl
theorem ra_nat {r m q k : Nat} (hr : 1 ≤ r ∧ r ≤ 7) (hm : m < 2147483648) (hk : k < r) : rnA (r : Int) (m : Int) (q : Int) k = (raN r m q k : Int) := by
  unfold rnA raN
  rw [Int.toNat_natCast, rk_nat hr.2 hm (r - 1) (by omega), rk_nat hr.2 hm k hk, rm_nat hr hm]
  cases rmN r m q with
  | false => rw [if_neg (by rintro ⟨h, _⟩; cases h)]; rfl
  | true =>
    cases e : Nat.beq (rkN r m q k) (rkN r m q (r - 1)) with
    | true => rw [if_pos ⟨rfl, by rw [beq_iff.mp e]⟩]; rfl
    | false =>
      have : rkN r m q k ≠ rkN r m q (r - 1) := fun h => by rw [beq_iff.mpr h] at e; cases e
      rw [if_neg (by rintro ⟨_, h⟩; omega)]; rfl
theorem rkN_le (r m q : Nat) : ∀ k : Nat, rkN r m q k ≤ k
  | 0 => Nat.le_refl 0
  | k + 1 => by
    have := rkN_le r m q k
    show cond (fzN r m q (k + 1) == fzN r m q k) (rkN r m q k) (rkN r m q k + 1) ≤ k + 1
    cases (fzN r m q (k + 1) == fzN r m q k) <;> show _ ≤ k + 1
    · exact Nat.succ_le_succ this
    · exact Nat.le_succ_of_le this
theorem raN_le (r m q k : Nat) : raN r m q k ≤ k := by
  have := rkN_le r m q k
  unfold raN
  cases (rmN r m q && Nat.beq (rkN r m q k) (rkN r m q (r - 1))) with
  | true => exact Nat.zero_le k
  | false => exact this
theorem otN_lt {c q : Nat} (hc : c < 4) (hq : q < 3) : otN c q < 4 := by
  have h : ∀ c : Fin 4, ∀ q : Fin 3, otN c.val q.val < 4 := by decide
  exact h ⟨c, hc⟩ ⟨q, hq⟩
theorem ot_nat {c q : Nat} (hc : c < 4) (hq : q < 3) : otO (c : Int) (q : Int) = (otN c q : Int) := by
  have h : ∀ c : Fin 4, ∀ q : Fin 3, otO (c.val : Int) (q.val : Int) = (otN c.val q.val : Int) := by decide
  exact h ⟨c, hc⟩ ⟨q, hq⟩
theorem swD_lt {r m q s k : Nat} (hq : q < 3) : swD r m q s k < 4 := by
  unfold swD
  cases s.testBit (raN r m q k) with
  | true => exact otN_lt (dgN_lt r m k) hq
  | false => exact dgN_lt r m k
theorem swN_lt {r m q s : Nat} (hq : q < 3) : ∀ k : Nat, swN r m q s k < 4 ^ k
  | 0 => by show 0 < 4 ^ 0; decide
  | k + 1 => by
    have h1 := swN_lt (r := r) (m := m) (s := s) hq k
    have h2 := swD_lt (r := r) (m := m) (s := s) (k := k) hq
    show 4 * swN r m q s k + swD r m q s k < 4 ^ (k + 1)
    rw [Nat.pow_succ]
    omega
theorem sw_nat {r m q s : Nat} {g : Nat → Int} (hr : 1 ≤ r ∧ r ≤ 7) (hm : m < 2147483648) (hq : q < 3) (hg : ∀ k, k < r → g k = (raN r m q k : Int)) : ∀ k : Nat, k ≤ r → swS (r : Int) (m : Int) (q : Int) g (s : Int) k = (swN r m q s k : Int)
  | 0, _ => rfl
  | k + 1, hk => by
    have ih := sw_nat (s := s) hr hm hq hg k (by omega)
    have hl := swN_lt (r := r) (m := m) (s := s) hq k
    have hp7 : (4 : Nat) ^ k ≤ 4 ^ 7 := Nat.pow_le_pow_right (by decide) (by omega)
    have hra := raN_le r m q k
    show p_or (p_shl (swS (r : Int) (m : Int) (q : Int) g (s : Int) k) 2) (if p_and (p_shr (s : Int) (g k)) 1 ≠ 1 then (cAt (r : Int) (m : Int) k : Int) else otO (cAt (r : Int) (m : Int) k) (q : Int)) = ((4 * swN r m q s k + swD r m q s k : Nat) : Int)
    have e : (if p_and (p_shr (s : Int) (g k)) 1 ≠ 1 then (cAt (r : Int) (m : Int) k : Int) else otO (cAt (r : Int) (m : Int) k) (q : Int)) = (swD r m q s k : Int) := by
      rw [hg k (by omega), cAt_nat hr.2 hm (by omega), ot_nat (dgN_lt r m k) hq]
      unfold swD
      have ht := p_tst_1 (x := (s : Int)) (s := (raN r m q k : Int)) (by omega)
      rw [Int.toNat_natCast, bt_nat (by omega)] at ht
      cases hb : s.testBit (raN r m q k) with
      | true => rw [if_neg (fun h => h (ht.mpr hb))]; rfl
      | false => rw [if_pos (fun h => by rw [ht.mp h] at hb; cases hb)]; rfl
    rw [e, ih]
    exact put_nat (by omega) (swD_lt hq)
/-- what a set of runs makes of a colouring: the same number on both sides -/
theorem tg_nat {r m q s : Nat} {g : Nat → Int} (hr : 1 ≤ r ∧ r ≤ 7) (hm : m < 2147483648) (hq : q < 3) (hg : ∀ k, k < r → g k = (raN r m q k : Int)) : (nmS (r : Int) (swS (r : Int) (m : Int) (q : Int) g (s : Int) r) r).1 = (tgN r m q s : Int) := by
  have hl := swN_lt (r := r) (m := m) (s := s) hq r
  have hp7 : (4 : Nat) ^ r ≤ 4 ^ 7 := Nat.pow_le_pow_right (by decide) hr.2
  rw [sw_nat hr hm hq hg r (Nat.le_refl r)]
  exact (nm_nat hr.2 (by omega) r (Nat.le_refl r)).1
/-- the class turns by exclusive or -/
theorem xor_hi {a b y i : Nat} (hb : b < 2 ^ i) : (2 ^ i * a + b) ^^^ (2 ^ i * y) = 2 ^ i * (a ^^^ y) + b := by
  refine Nat.eq_of_testBit_eq (fun j => ?_)
  have e : 2 ^ i * y = 2 ^ i * y + 0 := rfl
  rw [Nat.testBit_xor, Nat.testBit_two_pow_mul_add a hb, e, Nat.testBit_two_pow_mul_add y (Nat.two_pow_pos i), Nat.testBit_two_pow_mul_add (a ^^^ y) hb, Nat.testBit_xor]
  by_cases h : j < i
  · rw [if_pos h, if_pos h, if_pos h, Nat.zero_testBit, Bool.xor_false]
  · rw [if_neg h, if_neg h, if_neg h]
theorem xor_lo {a c y : Nat} (hc : c < 4) (hy : y < 4) : (4 * a + c) ^^^ y = 4 * a + (c ^^^ y) := by
  have hx : c ^^^ y < 2 ^ 2 := Nat.xor_lt_two_pow (n := 2) hc hy
  refine Nat.eq_of_testBit_eq (fun j => ?_)
  rw [Nat.testBit_xor, show 4 * a + c = 2 ^ 2 * a + c from rfl, show 4 * a + (c ^^^ y) = 2 ^ 2 * a + (c ^^^ y) from rfl, Nat.testBit_two_pow_mul_add a (show c < 2 ^ 2 from hc), Nat.testBit_two_pow_mul_add a hx, Nat.testBit_xor]
  by_cases h : j < 2
  · rw [if_pos h, if_pos h]
  · rw [if_neg h, if_neg h, Nat.testBit_lt_two_pow (show y < 2 ^ j from Nat.lt_of_lt_of_le (show y < 2 ^ 2 from hy) (Nat.pow_le_pow_right (by decide) (by omega))), Bool.xor_false]
theorem otN_xor {c q : Nat} (hc : c < 4) (hq : q < 3) : otN c q = c ^^^ (q + 1) := by
  have h : ∀ c : Fin 4, ∀ q : Fin 3, otN c.val q.val = c.val ^^^ (q.val + 1) := by decide
  exact h ⟨c, hc⟩ ⟨q, hq⟩
theorem xor_nat {x y : Nat} (hx : x < 1073741824) (hy : y < 1073741824) : p_xor (x : Int) (y : Int) = ((x ^^^ y : Nat) : Int) := by
  have hz : x ^^^ y < 2 ^ 30 := Nat.xor_lt_two_pow (n := 30) hx hy
  refine bt_ext (isI_xor _ _) (isI_nat (by omega)) (fun i hi => ?_)
  rw [bt_xor, bt_nat hi, bt_nat hi, bt_nat hi, Nat.testBit_xor]
theorem shl_nat {y s : Nat} (hy : y < 4) (hs : s ≤ 14) : p_shl (y : Int) (s : Int) = ((2 ^ s * y : Nat) : Int) := by
  have hs2 : 2 ^ s ≤ 2 ^ 14 := Nat.pow_le_pow_right (by decide) hs
  have hlt : 2 ^ s * y < 65536 := by
    have : 2 ^ s * y ≤ 2 ^ 14 * 3 := Nat.mul_le_mul hs2 (by omega)
    omega
  refine bt_ext (isI_shl _ _) (isI_nat (by omega)) (fun i hi => ?_)
  rw [bt_shl (by omega), Int.toNat_natCast, decide_eq_true hi, Bool.true_and, bt_nat hi]
  have e : 2 ^ s * y = 2 ^ s * y + 0 := rfl
  rw [e, Nat.testBit_two_pow_mul_add y (Nat.two_pow_pos s)]
  by_cases h : i < s
  · rw [if_pos h, decide_eq_true h, Nat.zero_testBit]; rfl
  · rw [if_neg h, decide_eq_false h, bt_nat (by omega)]; rfl
theorem tn_nat {r m q s : Nat} {g : Nat → Int} (hr : 1 ≤ r ∧ r ≤ 7) (hm : m < 4 ^ r) (hq : q < 3) (hg : ∀ k, k < r → g k = (raN r m q k : Int)) : ∀ k : Nat, k ≤ r → tnS (r : Int) (m : Int) (q : Int) (s : Int) g k = ((4 ^ (r - k) * swN r m q s k + m % 4 ^ (r - k) : Nat) : Int)
  | 0, _ => by
    show (m : Int) = ((4 ^ r * 0 + m % 4 ^ r : Nat) : Int)
    rw [Nat.mul_zero, Nat.zero_add, Nat.mod_eq_of_lt hm]
  | k + 1, hk => by
    have ih := tn_nat (s := s) hr hm hq hg k (by omega)
    have hra := raN_le r m q k
    have hp7 : (4 : Nat) ^ r ≤ 4 ^ 7 := Nat.pow_le_pow_right (by decide) hr.2
    have hl := swN_lt (r := r) (m := m) (s := s) hq k
    have hd := dgN_lt r m k
    obtain ⟨e, he⟩ : ∃ e, e = r - 1 - k := ⟨_, rfl⟩
    have e1 : r - k = e + 1 := by omega
    have e2 : r - (k + 1) = e := by omega
    have hmod : m % 4 ^ (e + 1) = 4 ^ e * dgN r m k + m % 4 ^ e := by
      unfold dgN
      rw [← he, Nat.pow_succ, Nat.mod_mul]
      omega
    have hlo : m % 4 ^ e < 4 ^ e := Nat.mod_lt _ (Nat.pow_pos (by decide))
    have hst : tnS (r : Int) (m : Int) (q : Int) (s : Int) g (k + 1) = if p_and (p_shr (s : Int) (g (k : Int).toNat)) 1 = 0 then (tnS (r : Int) (m : Int) (q : Int) (s : Int) g k : Int) else p_xor (tnS (r : Int) (m : Int) (q : Int) (s : Int) g k) (p_shl ((q : Int) + 1) (2 * ((r : Int) - 1 - (k : Int)))) := rfl
    have ht := p_tst_0 (x := (s : Int)) (s := (raN r m q k : Int)) (by omega)
    rw [Int.toNat_natCast, bt_nat (by omega)] at ht
    rw [e1, hmod] at ih
    rw [hst, Int.toNat_natCast, hg k (by omega), ih, e2]
    have hsw : swN r m q s (k + 1) = 4 * swN r m q s k + swD r m q s k := rfl
    have q4 : (4 : Nat) ^ (e + 1) = 4 ^ e * 4 := Nat.pow_succ 4 e
    have hnum : 4 ^ (e + 1) * swN r m q s k + (4 ^ e * dgN r m k + m % 4 ^ e) = 4 ^ e * (4 * swN r m q s k + dgN r m k) + m % 4 ^ e := by
      rw [q4, Nat.mul_add, ← Nat.mul_assoc]
      omega
    rw [hnum]
    cases hb : s.testBit (raN r m q k) with
    | false =>
      rw [if_pos (ht.mpr hb), hsw]
      have : swD r m q s k = dgN r m k := by unfold swD; rw [hb]; rfl
      rw [this]
    | true =>
      rw [if_neg (fun h => by rw [ht.mp h] at hb; cases hb), hsw]
      have hD : swD r m q s k = otN (dgN r m k) q := by unfold swD; rw [hb]; rfl
      have p4 : (4 : Nat) ^ e = 2 ^ (2 * e) := by rw [Nat.pow_mul]
      have he6 : e ≤ 6 := by omega
      have hpe : (4 : Nat) ^ e ≤ 4 ^ 6 := Nat.pow_le_pow_right (by decide) he6
      have hpk : 4 ^ e * (4 * 4 ^ k) = 4 ^ r := by
        rw [← Nat.pow_succ', ← Nat.pow_add]
        congr 1
        omega
      have hbig : 4 ^ e * (4 * swN r m q s k + dgN r m k) + m % 4 ^ e < 4 ^ r := by
        rw [← hpk]
        have : 4 ^ e * (4 * swN r m q s k + dgN r m k + 1) ≤ 4 ^ e * (4 * 4 ^ k) := Nat.mul_le_mul_left _ (by omega)
        rw [Nat.mul_add] at this
        omega
      have hy : 2 ^ (2 * e) * (q + 1) < 65536 := by
        have : 2 ^ (2 * e) * (q + 1) ≤ 4 ^ 6 * 3 := by rw [← p4]; exact Nat.mul_le_mul hpe (by omega)
        omega
      rw [show ((q : Int) + 1) = ((q + 1 : Nat) : Int) from rfl, show (2 * ((r : Int) - 1 - (k : Int))) = ((2 * e : Nat) : Int) by omega, shl_nat (by omega) (by omega), xor_nat (by omega) (by omega), p4, xor_hi (by rw [← p4]; exact hlo), xor_lo hd (by omega), hD, otN_xor hd hq]
/-- both ways of turning are one -/
theorem tn_sw {r m q s : Nat} {g g' : Nat → Int} (hr : 1 ≤ r ∧ r ≤ 7) (hm : m < 4 ^ r) (hq : q < 3) (hg : ∀ k, k < r → g k = (raN r m q k : Int)) (hg' : ∀ k, k < r → g' k = (raN r m q k : Int)) : tnS (r : Int) (m : Int) (q : Int) (s : Int) g r = swS (r : Int) (m : Int) (q : Int) g' (s : Int) r := by
  have hp7 : (4 : Nat) ^ r ≤ 4 ^ 7 := Nat.pow_le_pow_right (by decide) hr.2
  rw [tn_nat hr hm hq hg r (Nat.le_refl r), sw_nat hr (by omega) hq hg' r (Nat.le_refl r), Nat.sub_self, Nat.pow_zero, Nat.one_mul, Nat.mod_one, Nat.add_zero]
end
