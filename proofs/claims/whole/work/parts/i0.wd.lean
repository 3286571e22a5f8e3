/-! ===== tokens and words: both sides alike ===== -/
noncomputable section
def txR (t t' : Nat → Int) : Prop := ∀ k : Nat, (0 ≤ t' k ∧ t' k ≤ 255) ∧ t k = if t' k < 128 then t' k else t' k - 256
theorem tx_kd {t t' : Nat → Int} (h : txR t t') (k : Nat) : kdC (t k) = kdC (t' k) := by
  obtain ⟨h1, h2⟩ := h k
  by_cases q : t' k < 128
  · rw [if_pos q] at h2; rw [h2]
  · rw [if_neg q] at h2
    unfold kdC
    rw [if_neg (by omega), if_neg (by omega), if_neg (by omega), if_neg (by omega), if_neg (by omega), if_neg (by omega), if_neg (by omega), if_neg (by omega)]
theorem tx_A {t t' : Nat → Int} (h : txR t t') : kdA t = kdA t' := by
  funext n k
  unfold kdA
  rw [tx_kd h]
theorem tx_P {t t' : Nat → Int} (h : txR t t') : kdP t = kdP t' := by
  funext n x k
  unfold kdP
  rw [tx_A h]
theorem tx_S {t t' : Nat → Int} (h : txR t t') : tkS t = tkS t' := by
  funext n p
  unfold tkS
  rw [tx_P h]
theorem tx_K {t t' : Nat → Int} (h : txR t t') : tkK t = tkK t' := by
  funext n p
  unfold tkK
  rw [tx_S h, tx_A h]
theorem tx_E {t t' : Nat → Int} (h : txR t t') : tkE t = tkE t' := by
  funext n p
  unfold tkE
  rw [tx_K h, tx_S h, tx_P h]
theorem tx_same {t t' : Nat → Int} (h : txR t t') {k : Nat} (hk : 0 ≤ t' k ∧ t' k < 128) : t k = t' k := by
  rw [(h k).2, if_pos hk.2]
theorem runL_all {q : Nat → Bool} : ∀ (j p k : Nat), p ≤ k → k < runL q j p → q k = true
  | 0, p, k, h1, h2 => absurd h2 (by show ¬(k < p); omega)
  | j + 1, p, k, h1, h2 => by
    unfold runL at h2
    split at h2
    · rename_i hq
      by_cases e : k = p
      · rw [e]; exact hq
      · exact runL_all j (p + 1) k (by omega) h2
    · omega
theorem tk_in (t : Nat → Int) {n p : Nat} (hp : p ≤ n) : p ≤ tkS t n p ∧ tkS t n p ≤ n ∧ tkS t n p ≤ tkE t n p ∧ tkE t n p ≤ n := by
  have h1 := runL_le (kdP t n 4) (n - p) p
  have hs : tkS t n p = runL (kdP t n 4) (n - p) p := rfl
  rw [← hs] at h1
  refine ⟨h1.1, by omega, ?_⟩
  unfold tkE
  by_cases c1 : tkK t n p = 1 ∨ tkK t n p = 2
  · rw [if_pos c1]
    have h2 := runL_le (kdP t n (tkK t n p)) (n - tkS t n p) (tkS t n p)
    omega
  · rw [if_neg c1]
    by_cases c0 : tkK t n p = 0
    · rw [if_pos c0]; omega
    · rw [if_neg c0]
      have : tkS t n p < n := by
        by_cases w : tkS t n p < n
        · exact w
        · refine absurd ?_ c0
          unfold tkK kdA
          rw [if_neg (by omega)]
      omega
theorem tk_kind (t : Nat → Int) {n p k : Nat} (c : tkK t n p = 1 ∨ tkK t n p = 2) (h1 : tkS t n p ≤ k) (h2 : k < tkE t n p) : kdA t n k = tkK t n p := by
  unfold tkE at h2
  rw [if_pos c] at h2
  have := runL_all _ _ _ h1 h2
  exact of_decide_eq_true this
theorem kdA_dig {t : Nat → Int} {n : Int} {k : Nat} (h : kdA t n k = 2) : 48 ≤ t k ∧ t k ≤ 57 := by
  unfold kdA at h
  by_cases q : (k : Int) < n
  · rw [if_pos q, Int.toNat_natCast] at h; exact kdC_2.mp h
  · rw [if_neg q] at h; exact absurd h (by decide)
theorem kdA_let {t : Nat → Int} {n : Int} {k : Nat} (h : kdA t n k = 1) : 97 ≤ t k ∧ t k ≤ 122 := by
  unfold kdA at h
  by_cases q : (k : Int) < n
  · rw [if_pos q, Int.toNat_natCast] at h; exact kdC_1.mp h
  · rw [if_neg q] at h; exact absurd h (by decide)
theorem cv_mv {t t' : Nat → Int} {st : Nat} : ∀ {k : Nat}, k ≤ 4 → (∀ j, j < k → (48 ≤ t' (st + j) ∧ t' (st + j) ≤ 57) ∧ t (st + j) = t' (st + j)) → cvS t st k = mvS t' st k
  | 0, _, _ => rfl
  | k + 1, hk, h => by
    have ih := cv_mv (t := t) (t' := t') (st := st) (k := k) (by omega) (fun j hj => h j (by omega))
    have hb := mvS_in (t := t') (st := st) (k := k) (fun j hj => (h j (by omega)).1)
    have hd := h k (by omega)
    show p_min (((cvS t st k * 10) + t (st + k)) - 48) 10000 = if (k : Int) < 4 then ((10 * mvS t' st k) + t' (st + k)) - 48 else mvS t' st k
    rw [if_pos (by omega), ih, hd.2]
    have hk3 : k = 0 ∨ k = 1 ∨ k = 2 ∨ k = 3 := by omega
    rw [p_min_eq (by omega) (by omega)]
    rcases hk3 with rfl | rfl | rfl | rfl
    · have := hb.2.2.1 rfl; omega
    · have := hb.2.2.2.1 (by decide); omega
    · have := hb.2.2.2.2.1 (by decide); omega
    · have := hb.2.2.2.2.2 (by decide); omega
/-- a number's value: the class's of the reference's -/
theorem num_eq {t t' : Nat → Int} (h : txR t t') {n p : Nat} : adV t n p = if tkK t' n p = 2 then (if 4 < (tkE t' n p : Int) - tkS t' n p then 10000 else gsV t' n p) else 0 := by
  unfold adV gsV
  rw [tx_K h, tx_E h, tx_S h]
  by_cases c : tkK t' n p = 2
  · rw [if_pos c, if_pos c, if_pos c]
    by_cases q : 4 < (tkE t' n p : Int) - tkS t' n p
    · rw [if_pos q, if_pos q]
    · rw [if_neg q, if_neg q]
      refine cv_mv (by omega) (fun j hj => ?_)
      have := kdA_dig ((tk_kind t' (k := tkS t' n p + j) (Or.inr c) (by omega) (by omega)).trans c)
      exact ⟨this, tx_same h (by omega)⟩
  · rw [if_neg c, if_neg c]
theorem gsV_in {t : Nat → Int} {n p : Nat} : 0 ≤ gsV t n p ∧ gsV t n p ≤ 9999 := by
  unfold gsV
  by_cases c : tkK t n p = 2
  · rw [if_pos c]
    have := mvS_in (t := t) (st := tkS t n p) (k := tkE t n p - tkS t n p) (fun j hj => kdA_dig ((tk_kind t (k := tkS t n p + j) (Or.inr c) (by omega) (by omega)).trans c))
    exact ⟨this.1, this.2.1⟩
  · rw [if_neg c]; decide
/-! words -/
theorem i2l_small {c : Nat} (hc : c < 32) : p_i2l (c : Int) = (c : Int) := by
  have h : ∀ c : Fin 32, p_i2l (c.val : Int) = (c.val : Int) := by decide
  exact h ⟨c, hc⟩
theorem l_bv (a : Int64) : (p_L a.toInt).toBitVec = a.toBitVec := BitVec.ofInt_toInt
theorem lput {v c : Nat} (hv : v < 1099511627776) (hc : c < 32) : p_lor (p_lshl (v : Int) 5) (p_i2l (c : Int)) = ((32 * v + c : Nat) : Int) := by
  rw [i2l_small hc]
  have hs : ((p_I 5).toInt64 &&& 63).toBitVec.smod 64 = 5#64 := by decide
  have e1 : (p_L (p_lshl (v : Int) 5)).toBitVec = (BitVec.ofInt 64 (v : Int)) <<< (((p_I 5).toInt64 &&& 63).toBitVec.smod 64) := l_bv _
  rw [hs] at e1
  have n1 : (BitVec.ofInt 64 (v : Int)).toNat = v := by
    rw [BitVec.toNat_ofInt]
    omega
  have n2 : (BitVec.ofInt 64 (c : Int)).toNat = c := by
    rw [BitVec.toNat_ofInt]
    omega
  have e2 : (p_L (p_lshl (v : Int) 5)).toBitVec.toNat = 32 * v := by
    rw [e1, BitVec.shiftLeft_eq', BitVec.toNat_shiftLeft, n1, Nat.shiftLeft_eq]
    show v * 2 ^ 5 % 2 ^ 64 = 32 * v
    omega
  have e3 : ((p_L (p_lshl (v : Int) 5)).toBitVec ||| (p_L (c : Int)).toBitVec).toNat = 32 * v + c := by
    rw [BitVec.toNat_or, e2]
    have : (p_L (c : Int)).toBitVec.toNat = c := n2
    rw [this, show 32 * v = 2 ^ 5 * v from rfl, Nat.two_pow_add_eq_or_of_lt (show c < 2 ^ 5 from hc)]
  have e4 : p_lor (p_lshl (v : Int) 5) (c : Int) = ((p_L (p_lshl (v : Int) 5)).toBitVec ||| (p_L (c : Int)).toBitVec).toInt := rfl
  rw [e4, BitVec.toInt_eq_toNat_of_lt (by rw [e3]; omega), e3]
def wL (k : Nat) : List Nat := ([[112, 105, 101, 99, 101], [106, 111, 105, 110], [114, 117, 108, 101], [102, 114, 111, 109], [116, 111], [119, 105, 116, 104], [98, 111, 116, 104], [115, 112, 111, 116], [112, 97, 105, 110, 116], [119, 97, 115, 104], [115, 119, 97, 112], [115, 104, 101, 101, 116], [111, 102, 102]] : List (List Nat)).getD k []
def wE (t : Nat → Int) (st L k : Nat) : Bool := decide (L = (wL k).length) && allB (fun j => decide (t (st + j) = ((wL k).getD j 0 : Int))) L
/-- letters packed -/
def pkN (f : Nat → Nat) : Nat → Nat
  | 0 => 0
  | k + 1 => 32 * pkN f k + f k
theorem mw_pk {t : Nat → Int} {st : Nat} {f : Nat → Nat} : ∀ {k : Nat}, k ≤ 5 → (∀ j, j < k → t (st + j) = (f j : Int) + 96 ∧ f j < 32) → mwS t st k = (pkN f k : Int) ∧ pkN f k < 32 ^ k
  | 0, _, _ => ⟨rfl, by show 0 < 32 ^ 0; decide⟩
  | k + 1, hk, h => by
    obtain ⟨h1, h2⟩ := mw_pk (t := t) (st := st) (f := f) (k := k) (by omega) (fun j hj => h j (by omega))
    have hd := h k (by omega)
    have hp : (32 : Nat) ^ k ≤ 32 ^ 4 := Nat.pow_le_pow_right (by decide) (by omega)
    have u : mwS t st (k + 1) = if (k : Int) < 5 then p_lor (p_lshl (mwS t st k) 5) (p_i2l (t (st + k) - 96)) else mwS t st k := rfl
    rw [u, if_pos (by omega), h1, show t (st + k) - 96 = (f k : Int) by omega, lput (by omega) hd.2]
    refine ⟨rfl, ?_⟩
    show 32 * pkN f k + f k < 32 ^ (k + 1)
    rw [Nat.pow_succ]
    omega
end
