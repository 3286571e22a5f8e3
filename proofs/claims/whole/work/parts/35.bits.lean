/-! ===== bits of an int ===== -/
noncomputable section
def bv (x : Int) : BitVec 32 := BitVec.ofInt 32 x
def bt (x : Int) (i : Nat) : Bool := (bv x).getLsbD i
def isI (x : Int) : Prop := -2147483648 ≤ x ∧ x ≤ 2147483647
theorem p_I_bv (x : Int) : (p_I x).toBitVec = bv x := rfl
theorem toInt_bv (a : Int32) : bv a.toInt = a.toBitVec := BitVec.ofInt_toInt
theorem bv_and (x y : Int) : bv (p_and x y) = bv x &&& bv y := toInt_bv _
theorem bv_or (x y : Int) : bv (p_or x y) = bv x ||| bv y := toInt_bv _
theorem bv_xor (x y : Int) : bv (p_xor x y) = bv x ^^^ bv y := toInt_bv _
theorem isI_of (a : Int32) : isI a.toInt := ⟨Int32.le_toInt a, by have := Int32.toInt_lt a; omega⟩
theorem isI_and (x y : Int) : isI (p_and x y) := isI_of _
theorem isI_or (x y : Int) : isI (p_or x y) := isI_of _
theorem isI_xor (x y : Int) : isI (p_xor x y) := isI_of _
theorem isI_shl (x y : Int) : isI (p_shl x y) := isI_of _
theorem isI_shr (x y : Int) : isI (p_shr x y) := isI_of _
theorem bt_and (x y : Int) (i : Nat) : bt (p_and x y) i = (bt x i && bt y i) := by unfold bt; rw [bv_and, BitVec.getLsbD_and]
theorem bt_or (x y : Int) (i : Nat) : bt (p_or x y) i = (bt x i || bt y i) := by unfold bt; rw [bv_or, BitVec.getLsbD_or]
theorem bt_xor (x y : Int) (i : Nat) : bt (p_xor x y) i = (bt x i ^^ bt y i) := by unfold bt; rw [bv_xor, BitVec.getLsbD_xor]
theorem sh_amt : ∀ n : Fin 32, ((p_I (n.val : Int) &&& 31).toBitVec.smod 32).toNat = n.val := by decide
theorem bv_shl {x s : Int} (h : 0 ≤ s ∧ s < 32) : bv (p_shl x s) = bv x <<< s.toNat := by
  obtain ⟨n, rfl⟩ := Int.eq_ofNat_of_zero_le h.1
  have hn : n < 32 := by omega
  have e := sh_amt ⟨n, hn⟩
  dsimp only at e
  have g : bv (p_shl x (n : Int)) = bv x <<< ((p_I (n : Int) &&& 31).toBitVec.smod 32) := toInt_bv _
  rw [g, BitVec.shiftLeft_eq', e]
  rfl
theorem bv_shr {x s : Int} (h : 0 ≤ s ∧ s < 32) : bv (p_shr x s) = (bv x).sshiftRight s.toNat := by
  obtain ⟨n, rfl⟩ := Int.eq_ofNat_of_zero_le h.1
  have hn : n < 32 := by omega
  have e := sh_amt ⟨n, hn⟩
  dsimp only at e
  have g : bv (p_shr x (n : Int)) = (bv x).sshiftRight' ((p_I (n : Int) &&& 31).toBitVec.smod 32) := toInt_bv _
  rw [g]
  show (bv x).sshiftRight ((p_I (n : Int) &&& 31).toBitVec.smod 32).toNat = _
  rw [e]
  rfl
theorem bt_shl {x s : Int} (h : 0 ≤ s ∧ s < 32) (i : Nat) : bt (p_shl x s) i = (decide (i < 32) && !decide (i < s.toNat) && bt x (i - s.toNat)) := by
  unfold bt
  rw [bv_shl h, BitVec.getLsbD_shiftLeft]
theorem bt_ge (x : Int) {i : Nat} (h : 32 ≤ i) : bt x i = false := BitVec.getLsbD_of_ge _ _ h
theorem bt_shr {x s : Int} (h : 0 ≤ s ∧ s < 32) {i : Nat} (hi : i + s.toNat < 32) : bt (p_shr x s) i = bt x (s.toNat + i) := by
  unfold bt
  rw [bv_shr h, BitVec.getLsbD_sshiftRight]
  have h1 : decide (32 ≤ i) = false := decide_eq_false (by omega)
  have h2 : s.toNat + i < 32 := by omega
  rw [h1, if_pos h2]
  rfl
theorem bt_zero (i : Nat) : bt 0 i = false := by unfold bt bv; simp
theorem bt_one (i : Nat) : bt 1 i = decide (i = 0) := by
  by_cases h : i < 32
  · have : ∀ j : Fin 32, bt 1 j.val = decide (j.val = 0) := by decide
    exact this ⟨i, h⟩
  · rw [bt_ge _ (by omega)]; exact (decide_eq_false (by omega)).symm
theorem bt_m1 {i : Nat} (h : i < 32) : bt (-1) i = true := by
  have : ∀ j : Fin 32, bt (-1) j.val = true := by decide
  exact this ⟨i, h⟩
theorem bt_not {x : Int} {i : Nat} (h : i < 32) : bt (p_xor x (-1)) i = !bt x i := by rw [bt_xor, bt_m1 h, Bool.xor_true]
theorem bt_bit {s : Int} (h : 0 ≤ s ∧ s < 32) (i : Nat) : bt (p_shl 1 s) i = decide (i = s.toNat) := by
  rw [bt_shl h, bt_one]
  by_cases h1 : i = s.toNat
  · subst h1
    rw [decide_eq_true (show s.toNat < 32 by omega)]
    simp
  · rw [decide_eq_false h1]
    by_cases h2 : i < s.toNat
    · rw [decide_eq_true h2]; simp
    · rw [decide_eq_false (show ¬(i - s.toNat = 0) by omega)]; simp
theorem bv_toInt {x : Int} (h : isI x) : (bv x).toInt = x := by
  have := pI_eq h
  exact this
theorem bt_ext {x y : Int} (hx : isI x) (hy : isI y) (h : ∀ i, i < 32 → bt x i = bt y i) : x = y := by
  rw [← bv_toInt hx, ← bv_toInt hy]
  congr 1
  exact BitVec.eq_of_getLsbD_eq (fun i hi => h i hi)
theorem p_tst {x s : Int} (h : 0 ≤ s ∧ s < 32) : p_and (p_shr x s) 1 = if bt x s.toNat then 1 else 0 := by
  apply bt_ext (isI_and _ _)
  · split <;> exact ⟨by decide, by decide⟩
  · intro i hi
    rw [bt_and, bt_one]
    by_cases h0 : i = 0
    · subst h0
      rw [bt_shr h (by omega), Nat.add_zero]
      by_cases hb : bt x s.toNat = true
      · rw [hb]; rw [if_pos rfl, bt_one]; rfl
      · rw [Bool.not_eq_true] at hb; rw [hb]; rfl
    · rw [decide_eq_false h0, Bool.and_false]
      split
      · rw [bt_one, decide_eq_false h0]
      · rw [bt_zero]
theorem p_tst_ne {x s : Int} (h : 0 ≤ s ∧ s < 32) : p_and (p_shr x s) 1 ≠ 0 ↔ bt x s.toNat = true := by
  rw [p_tst h]
  by_cases hb : bt x s.toNat = true
  · rw [if_pos hb]; exact ⟨fun _ => hb, fun _ => by decide⟩
  · rw [if_neg hb]; exact ⟨fun c => absurd rfl c, fun c => absurd c hb⟩
theorem p_tst_0 {x s : Int} (h : 0 ≤ s ∧ s < 32) : p_and (p_shr x s) 1 = 0 ↔ bt x s.toNat = false := by
  rw [p_tst h]
  by_cases hb : bt x s.toNat = true
  · rw [if_pos hb, hb]; exact ⟨fun c => (by cases c), fun c => (by cases c)⟩
  · rw [if_neg hb]; exact ⟨fun _ => Bool.eq_false_iff.mpr hb, fun _ => rfl⟩
theorem p_tst_1 {x s : Int} (h : 0 ≤ s ∧ s < 32) : p_and (p_shr x s) 1 = 1 ↔ bt x s.toNat = true := by
  rw [p_tst h]
  by_cases hb : bt x s.toNat = true
  · rw [if_pos hb]; exact ⟨fun _ => hb, fun _ => rfl⟩
  · rw [if_neg hb]; exact ⟨fun c => (by cases c), fun c => absurd c hb⟩
theorem p_and_0 {x y : Int} : p_and x y = 0 ↔ ∀ i, i < 32 → ¬(bt x i = true ∧ bt y i = true) := by
  constructor
  · intro h i hi c
    have e := bt_and x y i
    rw [h, bt_zero, c.1, c.2] at e
    cases e
  · intro h
    apply bt_ext (isI_and _ _) ⟨by decide, by decide⟩
    intro i hi
    rw [bt_and, bt_zero]
    have := h i hi
    revert this
    cases bt x i <;> cases bt y i <;> simp
/-- no bits from n on: small and not negative -/
theorem bt_small {x : Int} {n : Nat} (hn : n ≤ 31) (hx : isI x) (h : ∀ i, n ≤ i → i < 32 → bt x i = false) : 0 ≤ x ∧ x < 2 ^ n := by
  have e : (bv x).toNat < 2 ^ n := by
    apply Nat.lt_pow_two_of_testBit
    intro i hi
    by_cases h2 : i < 32
    · exact h i hi h2
    · exact bt_ge x (by omega)
  have hp : (2 : Nat) ^ n ≤ 2 ^ 31 := Nat.pow_le_pow_right (by decide) hn
  have e2 : (bv x).toInt = (bv x).toNat := by
    rw [BitVec.toInt_eq_toNat_cond]
    rw [if_pos (by omega)]
  rw [← bv_toInt hx, e2]
  constructor
  · exact Int.natCast_nonneg _
  · have : ((2 ^ n : Nat) : Int) = 2 ^ n := by simp
    omega
theorem bt_of_small {x : Int} {n : Nat} (hn : n ≤ 31) (h : 0 ≤ x ∧ x < 2 ^ n) {i : Nat} (hi : n ≤ i) : bt x i = false := by
  obtain ⟨m, rfl⟩ := Int.eq_ofNat_of_zero_le h.1
  have hm : m < 2 ^ n := by
    have : ((2 ^ n : Nat) : Int) = 2 ^ n := by simp
    omega
  have hp : (2 : Nat) ^ n ≤ 2 ^ 31 := Nat.pow_le_pow_right (by decide) hn
  unfold bt bv
  have e : BitVec.ofInt 32 (m : Int) = BitVec.ofNat 32 m := BitVec.ofInt_natCast 32 m
  rw [e, BitVec.getLsbD_ofNat]
  have : m.testBit i = false := Nat.testBit_lt_two_pow (Nat.lt_of_lt_of_le hm (Nat.pow_le_pow_right (by decide) hi))
  rw [this, Bool.and_false]
theorem bt_nat {m i : Nat} (hi : i < 32) : bt (m : Int) i = m.testBit i := by
  unfold bt bv
  have e : BitVec.ofInt 32 (m : Int) = BitVec.ofNat 32 m := BitVec.ofInt_natCast 32 m
  rw [e, BitVec.getLsbD_ofNat, decide_eq_true hi, Bool.true_and]
/-! ===== one place of the heap changed ===== -/
theorem up2_same {α : Type} (f : Nat → Nat → α) (a k : Nat) (v : α) : up2 f a k v a k = v := by unfold up2; rw [if_pos ⟨rfl, rfl⟩]
theorem up2_a {α : Type} (f : Nat → Nat → α) {a k b j : Nat} {v : α} (h : b ≠ a) : up2 f a k v b j = f b j := by unfold up2; rw [if_neg (fun c => h c.1)]
theorem up2_k {α : Type} (f : Nat → Nat → α) {a k b j : Nat} {v : α} (h : j ≠ k) : up2 f a k v b j = f b j := by unfold up2; rw [if_neg (fun c => h c.2)]
theorem up2_up1 {α : Type} (f : Nat → Nat → α) (a k : Nat) (v : α) : up2 f a k v = up1 f a (up1 (f a) k v) := by
  funext b j
  unfold up2 up1
  by_cases h : b = a
  · subst h
    rw [if_pos rfl]
    by_cases h2 : j = k
    · rw [if_pos ⟨rfl, h2⟩, if_pos h2]
    · rw [if_neg (fun c => h2 c.2), if_neg h2]
  · rw [if_neg (fun c => h c.1), if_neg h]
theorem up1_same {α : Type} (f : Nat → α) (a : Nat) (v : α) : up1 f a v a = v := by unfold up1; rw [if_pos rfl]
theorem up1_o {α : Type} (f : Nat → α) {a b : Nat} {v : α} (h : b ≠ a) : up1 f a v b = f b := by unfold up1; rw [if_neg h]
theorem up1_up1 {α : Type} (f : Nat → α) (a : Nat) (v w : α) : up1 (up1 f a v) a w = up1 f a w := by
  funext b
  unfold up1
  by_cases h : b = a
  · rw [if_pos h, if_pos h]
  · rw [if_neg h, if_neg h, if_neg h]
theorem up1_self {α : Type} (f : Nat → α) (a : Nat) : up1 f a (f a) = f := by
  funext b
  unfold up1
  by_cases h : b = a
  · rw [if_pos h, h]
  · rw [if_neg h]
theorem up1_comm {α : Type} (f : Nat → α) {a b : Nat} (v w : α) (h : a ≠ b) : up1 (up1 f a v) b w = up1 (up1 f b w) a v := by
  funext c
  unfold up1
  by_cases h1 : c = a
  · subst h1; rw [if_neg h, if_pos rfl, if_pos rfl]
  · by_cases h2 : c = b
    · subst h2; rw [if_pos rfl, if_neg h1, if_pos rfl]
    · rw [if_neg h2, if_neg h1, if_neg h1, if_neg h2]
end
