/-! ===== colours of spots, off the heap ===== -/
noncomputable section
theorem bt_ne_zero {x : Int} (h : isI x) (hx : x ≠ 0) : ∃ i, i < 32 ∧ bt x i = true := by
  apply Classical.byContradiction
  intro q
  apply hx
  refine bt_ext h ⟨by decide, by decide⟩ (fun i hi => ?_)
  rw [bt_zero]
  cases e : bt x i with
  | false => rfl
  | true => exact absurd ⟨i, hi, e⟩ q
/-- sets of spots by colours tell the colours of the first n spots -/
def pnt (f g : Nat → Int) (n : Nat) : Prop := (n ≤ 12 ∧ ∀ i, i < n → -1 ≤ g i ∧ g i ≤ 3) ∧ ∀ c : Nat, c < 4 → isI (f c) ∧ ∀ i, bt (f c) i = (decide (i < n) && decide (g i = (c : Int)))
section
variable {f g : Nat → Int} {n : Nat}
theorem pnt_ext {g' : Nat → Int} (h : pnt f g n) (e : ∀ i, i < n → g i = g' i) : pnt f g' n := by
  refine ⟨⟨h.1.1, fun i hi => by rw [← e i hi]; exact h.1.2 i hi⟩, fun c hc => ⟨(h.2 c hc).1, fun i => ?_⟩⟩
  rw [(h.2 c hc).2 i]
  by_cases hi : i < n
  · rw [e i hi]
  · rw [decide_eq_false hi, Bool.false_and, Bool.false_and]
theorem pnt_bit (h : pnt f g n) {c s : Nat} (hc : c < 4) (hs : s < n) : bt (f c) s = true ↔ g s = (c : Int) := by
  rw [(h.2 c hc).2 s, decide_eq_true hs, Bool.true_and, decide_eq_true_iff]
theorem pnt_tst (h : pnt f g n) {c s : Nat} (hc : c < 4) (hs : s < n) : p_and (p_shr (f c) (s : Int)) 1 ≠ 0 ↔ g s = (c : Int) := by
  have := h.1.1
  rw [p_tst_ne (by omega), Int.toNat_natCast, pnt_bit h hc hs]
theorem pnt_col (h : pnt f g n) {s : Nat} (hs : s < n) : colO f (s : Int) = g s := by
  have h0 := pnt_tst h (c := 0) (by decide) hs
  have h1 := pnt_tst h (c := 1) (by decide) hs
  have h2 := pnt_tst h (c := 2) (by decide) hs
  have h3 := pnt_tst h (c := 3) (by decide) hs
  have hr := h.1.2 s hs
  unfold colO
  by_cases c0 : p_and (p_shr (f 0) (s : Int)) 1 ≠ 0
  · rw [if_pos c0]; exact (h0.mp c0).symm
  · rw [if_neg c0]
    by_cases c1 : p_and (p_shr (f 1) (s : Int)) 1 ≠ 0
    · rw [if_pos c1]; exact (h1.mp c1).symm
    · rw [if_neg c1]
      by_cases c2 : p_and (p_shr (f 2) (s : Int)) 1 ≠ 0
      · rw [if_pos c2]; exact (h2.mp c2).symm
      · rw [if_neg c2]
        by_cases c3 : p_and (p_shr (f 3) (s : Int)) 1 ≠ 0
        · rw [if_pos c3]; exact (h3.mp c3).symm
        · rw [if_neg c3]
          have q0 : g s ≠ 0 := fun q => c0 (h0.mpr q)
          have q1 : g s ≠ 1 := fun q => c1 (h1.mpr q)
          have q2 : g s ≠ 2 := fun q => c2 (h2.mpr q)
          have q3 : g s ≠ 3 := fun q => c3 (h3.mpr q)
          omega
theorem pnt_any (h : pnt f g n) {s : Nat} (hs : s < n) : p_and (p_shr (p_or (p_or (p_or (f 0) (f 1)) (f 2)) (f 3)) (s : Int)) 1 ≠ 0 ↔ g s ≠ -1 := by
  have hn := h.1.1
  have hr := h.1.2 s hs
  rw [p_tst_ne (by omega), Int.toNat_natCast, bt_or, bt_or, bt_or, Bool.or_eq_true, Bool.or_eq_true, Bool.or_eq_true, pnt_bit h (by decide) hs, pnt_bit h (by decide) hs, pnt_bit h (by decide) hs, pnt_bit h (by decide) hs]
  constructor
  · rintro (((q | q) | q) | q) <;> omega
  · intro q
    have : g s = 0 ∨ g s = 1 ∨ g s = 2 ∨ g s = 3 := by omega
    rcases this with q | q | q | q
    · exact Or.inl (Or.inl (Or.inl q))
    · exact Or.inl (Or.inl (Or.inr q))
    · exact Or.inl (Or.inr q)
    · exact Or.inr q
theorem pnt_any0 (h : pnt f g n) {s : Nat} (hs : s < n) : p_and (p_shr (p_or (p_or (p_or (f 0) (f 1)) (f 2)) (f 3)) (s : Int)) 1 = 0 ↔ g s = -1 := by
  have := pnt_any h hs
  constructor
  · intro q
    apply Classical.byContradiction
    intro w
    exact this.mpr w q
  · intro q
    apply Classical.byContradiction
    intro w
    exact this.mp w q
/-- a colour is free for a spot -/
def frP (adj : Nat → Nat → Bool) (g : Nat → Int) (n s : Nat) (c : Int) : Bool := allB (fun i => !(adj s i) || decide (g i ≠ c)) n
theorem frP_iff {adj : Nat → Nat → Bool} {s : Nat} {c : Int} : frP adj g n s c = true ↔ ∀ i, i < n → adj s i = true → g i ≠ c := by
  unfold frP
  rw [allB_iff]
  constructor
  · intro h i hi ha
    have := h i hi
    rw [ha] at this
    exact of_decide_eq_true this
  · intro h i hi
    cases e : adj s i with
    | false => rfl
    | true => exact decide_eq_true (h i hi e)
theorem frP_congr {adj : Nat → Nat → Bool} {s : Nat} {c : Int} {g' : Nat → Int} (e : ∀ i, i < n → g i = g' i) : frP adj g n s c = frP adj g' n s c :=
  allB_congr (fun i hi => by rw [e i hi])
theorem pnt_free (h : pnt f g n) {c s : Nat} {m : Int} {adj : Nat → Nat → Bool} (hc : c < 4) (ha : ∀ i, i < n → adj s i = bt m i) : p_and (f c) m = 0 ↔ frP adj g n s (c : Int) = true := by
  have hn := h.1.1
  rw [p_and_0, frP_iff]
  constructor
  · intro q i hi hai hg
    exact q i (by omega) ⟨(pnt_bit h hc hi).mpr hg, by rw [← ha i hi]; exact hai⟩
  · intro q i _ w
    by_cases hi : i < n
    · exact q i hi (by rw [ha i hi]; exact w.2) ((pnt_bit h hc hi).mp w.1)
    · have := (h.2 c hc).2 i
      rw [decide_eq_false hi, Bool.false_and] at this
      rw [this] at w
      exact absurd w.1 (by decide)
theorem pnt_put (h : pnt f g n) {c s : Nat} (hs : s < n) (hc : c < 4) (hg : g s = -1) : pnt (up1 f c (p_or (f c) (p_shl 1 (s : Int)))) (up1 g s (c : Int)) n := by
  have hn := h.1.1
  refine ⟨⟨hn, fun i hi => ?_⟩, fun k hk => ?_⟩
  · by_cases e : i = s
    · subst e; rw [up1_same]; omega
    · rw [up1_o _ e]; exact h.1.2 i hi
  · by_cases ek : k = c
    · subst ek
      rw [up1_same]
      refine ⟨isI_or _ _, fun i => ?_⟩
      rw [bt_or, (h.2 k hk).2 i, bt_bit (by omega), Int.toNat_natCast]
      by_cases e : i = s
      · subst e; rw [up1_same, decide_eq_true hs, decide_eq_true rfl, decide_eq_true rfl, Bool.or_true]; rfl
      · rw [up1_o _ e, decide_eq_false e, Bool.or_false]
    · rw [up1_o _ ek]
      refine ⟨(h.2 k hk).1, fun i => ?_⟩
      rw [(h.2 k hk).2 i]
      by_cases e : i = s
      · subst e; rw [up1_same, hg, decide_eq_false (show ¬((-1 : Int) = (k : Int)) by omega), decide_eq_false (show ¬((c : Int) = (k : Int)) by omega)]
      · rw [up1_o _ e]
theorem pnt_take (h : pnt f g n) {c s : Nat} (hs : s < n) (hc : c < 4) (hg : g s = (c : Int)) : pnt (up1 f c (p_and (f c) (p_xor (p_shl 1 (s : Int)) (-1)))) (up1 g s (-1)) n := by
  have hn := h.1.1
  refine ⟨⟨hn, fun i hi => ?_⟩, fun k hk => ?_⟩
  · by_cases e : i = s
    · subst e; rw [up1_same]; omega
    · rw [up1_o _ e]; exact h.1.2 i hi
  · by_cases ek : k = c
    · subst ek
      rw [up1_same]
      refine ⟨isI_and _ _, fun i => ?_⟩
      rw [bt_and, (h.2 k hk).2 i]
      by_cases hi : i < n
      · rw [bt_not (by omega), bt_bit (by omega), Int.toNat_natCast]
        by_cases e : i = s
        · subst e; rw [up1_same, decide_eq_true rfl, decide_eq_false (show ¬((-1 : Int) = (k : Int)) by omega), Bool.and_false]; exact Bool.and_false _
        · rw [up1_o _ e, decide_eq_false e, Bool.not_false, Bool.and_true]
      · rw [decide_eq_false hi, Bool.false_and, Bool.false_and, Bool.false_and]
    · rw [up1_o _ ek]
      refine ⟨(h.2 k hk).1, fun i => ?_⟩
      rw [(h.2 k hk).2 i]
      by_cases e : i = s
      · subst e; rw [up1_same, hg, decide_eq_false (show ¬((-1 : Int) = (k : Int)) by omega), decide_eq_false (show ¬((c : Int) = (k : Int)) by omega)]
      · rw [up1_o _ e]
/-- two colours change places on some spots -/
def xcG (g : Nat → Int) (n : Nat) (x a b : Int) : Nat → Int := fun i => if i < n ∧ bt x i = true then (if g i = a then b else if g i = b then a else g i) else g i
def xcF (f : Nat → Int) (x : Int) (a b : Nat) : Nat → Int := up1 (up1 f a (p_or (p_and (f a) (p_xor x (-1))) (p_and (f b) x))) b (p_or (p_and ((up1 f a (p_or (p_and (f a) (p_xor x (-1))) (p_and (f b) x))) b) (p_xor x (-1))) (p_and (f a) x))
theorem pnt_xc (h : pnt f g n) {a b : Nat} {x : Int} (ha : a < 4) (hb : b < 4) (hab : a ≠ b) : pnt (xcF f x a b) (xcG g n x (a : Int) (b : Int)) n := by
  have hn := h.1.1
  have key : ∀ (p q i : Nat), p < 4 → q < 4 → bt (p_or (p_and (f p) (p_xor x (-1))) (p_and (f q) x)) i = (decide (i < n) && (if bt x i = true then decide (g i = (q : Int)) else decide (g i = (p : Int)))) := by
    intro p q i hp hq
    rw [bt_or, bt_and, bt_and, (h.2 p hp).2 i, (h.2 q hq).2 i]
    by_cases hi : i < n
    · rw [bt_not (by omega), decide_eq_true hi, Bool.true_and, Bool.true_and, Bool.true_and]
      cases e : bt x i with
      | true => rw [if_pos rfl, Bool.not_true, Bool.and_false, Bool.false_or, Bool.and_true]
      | false => rw [if_neg (by decide), Bool.not_false, Bool.and_true, Bool.and_false, Bool.or_false]
    · rw [decide_eq_false hi]; rfl
  refine ⟨⟨hn, fun i hi => ?_⟩, fun k hk => ?_⟩
  · unfold xcG
    have := h.1.2 i hi
    split
    · split
      · omega
      · split <;> omega
    · exact this
  · unfold xcF
    by_cases ek : k = b
    · subst ek
      rw [up1_same, up1_o _ (Ne.symm hab)]
      refine ⟨isI_or _ _, fun i => ?_⟩
      rw [key k a i hk ha]
      unfold xcG
      by_cases hi : i < n
      · rw [decide_eq_true hi, Bool.true_and, Bool.true_and]
        by_cases e : bt x i = true
        · rw [if_pos e, if_pos ⟨hi, e⟩]
          by_cases q : g i = (a : Int)
          · rw [if_pos q, decide_eq_true q, decide_eq_true rfl]
          · rw [if_neg q, decide_eq_false q]
            by_cases q2 : g i = (k : Int)
            · rw [if_pos q2, decide_eq_false (by omega)]
            · rw [if_neg q2, decide_eq_false q2]
        · rw [if_neg e, if_neg (fun w => e w.2)]
      · rw [decide_eq_false hi]; rfl
    · rw [up1_o _ ek]
      by_cases ek2 : k = a
      · subst ek2
        rw [up1_same]
        refine ⟨isI_or _ _, fun i => ?_⟩
        rw [key k b i hk hb]
        unfold xcG
        by_cases hi : i < n
        · rw [decide_eq_true hi, Bool.true_and, Bool.true_and]
          by_cases e : bt x i = true
          · rw [if_pos e, if_pos ⟨hi, e⟩]
            by_cases q : g i = (k : Int)
            · rw [if_pos q, decide_eq_false (by omega), decide_eq_false (by omega)]
            · rw [if_neg q]
              by_cases q2 : g i = (b : Int)
              · rw [if_pos q2, decide_eq_true q2, decide_eq_true rfl]
              · rw [if_neg q2, decide_eq_false q2, decide_eq_false q]
          · rw [if_neg e, if_neg (fun w => e w.2)]
        · rw [decide_eq_false hi]; rfl
      · rw [up1_o _ ek2]
        refine ⟨(h.2 k hk).1, fun i => ?_⟩
        rw [(h.2 k hk).2 i]
        unfold xcG
        by_cases e : i < n ∧ bt x i = true
        · rw [if_pos e]
          by_cases q : g i = (a : Int)
          · rw [if_pos q, decide_eq_false (show ¬(g i = (k : Int)) by omega), decide_eq_false (show ¬((b : Int) = (k : Int)) by omega)]
          · rw [if_neg q]
            by_cases q2 : g i = (b : Int)
            · rw [if_pos q2, decide_eq_false (show ¬(g i = (k : Int)) by omega), decide_eq_false (show ¬((a : Int) = (k : Int)) by omega)]
            · rw [if_neg q2]
        · rw [if_neg e]
theorem xcG_xcG {a b x : Int} (hab : a ≠ b) (i : Nat) : xcG (xcG g n x a b) n x a b i = g i := by
  unfold xcG
  by_cases e : i < n ∧ bt x i = true
  · rw [if_pos e, if_pos e]
    by_cases q : g i = a
    · rw [if_pos q, if_neg (Ne.symm hab), if_pos rfl, q]
    · rw [if_neg q]
      by_cases q2 : g i = b
      · rw [if_pos q2, if_pos rfl, q2]
      · rw [if_neg q2, if_neg q, if_neg q2]
  · rw [if_neg e, if_neg e]
/-- how many of the first n are painted -/
def ctG (g : Nat → Int) : Nat → Int
  | 0 => 0
  | k + 1 => ctG g k + (if g k ≠ -1 then 1 else 0)
theorem ctG_in (g : Nat → Int) : ∀ n : Nat, 0 ≤ ctG g n ∧ ctG g n ≤ n
  | 0 => ⟨Int.le_refl 0, Int.le_refl 0⟩
  | k + 1 => by
    have := ctG_in g k
    unfold ctG
    split <;> omega
theorem ctG_congr {g g' : Nat → Int} : ∀ {n : Nat}, (∀ i, i < n → g i = g' i) → ctG g n = ctG g' n
  | 0, _ => rfl
  | k + 1, h => by
    unfold ctG
    rw [ctG_congr (n := k) (fun i hi => h i (by omega)), h k (by omega)]
theorem bcn_zero {x : Int} {n : Nat} : ∀ {m : Nat}, n ≤ m → (∀ i, n ≤ i → bt x i = false) → bcn x m = bcn x n := by
  intro m hm h
  induction hm with
  | refl => rfl
  | step hm ih =>
    show bcn x _ + (if bt x _ = true then 1 else 0) = bcn x n
    rw [ih, h _ hm, if_neg (by decide), Int.add_zero]
theorem pnt_cnt (h : pnt f g n) : bcn (p_or (p_or (p_or (f 0) (f 1)) (f 2)) (f 3)) 32 = ctG g n := by
  have hn := h.1.1
  have e : ∀ i, bt (p_or (p_or (p_or (f 0) (f 1)) (f 2)) (f 3)) i = (decide (i < n) && decide (g i ≠ -1)) := by
    intro i
    by_cases hi : i < n
    · have := pnt_any h hi
      rw [p_tst_ne (by omega), Int.toNat_natCast] at this
      rw [decide_eq_true hi, Bool.true_and]
      cases q : bt (p_or (p_or (p_or (f 0) (f 1)) (f 2)) (f 3)) i with
      | true => exact (decide_eq_true (this.mp q)).symm
      | false => exact (decide_eq_false (fun w => by rw [this.mpr w] at q; cases q)).symm
    · rw [decide_eq_false hi, Bool.false_and]
      rw [bt_or, bt_or, bt_or, (h.2 0 (by decide)).2 i, (h.2 1 (by decide)).2 i, (h.2 2 (by decide)).2 i, (h.2 3 (by decide)).2 i, decide_eq_false hi]
      rfl
  rw [bcn_zero (n := n) (m := 32) (by omega) (fun i hi => by rw [e i, decide_eq_false (by omega)]; rfl)]
  have go : ∀ k, k ≤ n → bcn (p_or (p_or (p_or (f 0) (f 1)) (f 2)) (f 3)) k = ctG g k := by
    intro k
    induction k with
    | zero => intro _; rfl
    | succ k ih =>
      intro hk
      unfold bcn ctG
      rw [ih (by omega), e k, decide_eq_true (show k < n by omega), Bool.true_and]
      by_cases q : g k ≠ -1
      · rw [decide_eq_true q, if_pos rfl, if_pos q]
      · rw [decide_eq_false q, if_neg (by decide), if_neg q]
  exact go n (Nat.le_refl n)
end
/-! ===== painting all: the first way, how many ways ===== -/
/-- the first of some colours that leads on -/
def foS (h : Nat → Option (Nat → Int)) : Nat → Nat → Option (Nat → Int)
  | 0, _ => none
  | k + 1, c => match h c with
    | some x => some x
    | none => foS h k (c + 1)
def fwS (adj : Nat → Nat → Bool) (n : Nat) : Nat → Nat → (Nat → Int) → Option (Nat → Int)
  | 0, _, g => some g
  | j + 1, s, g => if g s ≠ -1 then fwS adj n j (s + 1) g else foS (fun c => if frP adj g n s (c : Int) = true then fwS adj n j (s + 1) (up1 g s (c : Int)) else none) 4 0
def ctW (adj : Nat → Nat → Bool) (n : Nat) : Nat → Nat → (Nat → Int) → Int
  | 0, _, _ => 1
  | j + 1, s, g => if g s ≠ -1 then ctW adj n j (s + 1) g else smI (fun c => if frP adj g n s (c : Int) = true then ctW adj n j (s + 1) (up1 g s (c : Int)) else 0) 4
theorem ctW_in (adj : Nat → Nat → Bool) (n : Nat) : ∀ (j s : Nat) (g : Nat → Int), 0 ≤ ctW adj n j s g ∧ ctW adj n j s g ≤ 4 ^ j
  | 0, _, _ => ⟨by show (0 : Int) ≤ 1; decide, by show (1 : Int) ≤ 4 ^ 0; decide⟩
  | j + 1, s, g => by
    have e : (4 : Int) ^ (j + 1) = 4 ^ j * 4 := Int.pow_succ 4 j
    have hp : (0 : Int) ≤ 4 ^ j := Int.pow_nonneg (by decide)
    unfold ctW
    split
    · have := ctW_in adj n j (s + 1) g; omega
    · have h := smI_le (g := fun c => if frP adj g n s (c : Int) = true then ctW adj n j (s + 1) (up1 g s (c : Int)) else 0) (m := 4 ^ j) (n := 4) (fun c _ => by
        show 0 ≤ (if frP adj g n s (c : Int) = true then ctW adj n j (s + 1) (up1 g s (c : Int)) else 0) ∧ (if frP adj g n s (c : Int) = true then ctW adj n j (s + 1) (up1 g s (c : Int)) else 0) ≤ 4 ^ j
        have := ctW_in adj n j (s + 1) (up1 g s (c : Int))
        split <;> omega)
      rw [e]
      omega
theorem pow4_le {j : Nat} (h : j ≤ 12) : (4 : Int) ^ j ≤ 16777216 := by
  have : ∀ j : Fin 13, (4 : Int) ^ j.val ≤ 16777216 := by decide
  exact this ⟨j, by omega⟩
/-- two colours change names -/
def sw2 (a b x : Int) : Int := if x = a then b else if x = b then a else x
theorem sw2_sw2 (a b x : Int) : sw2 a b (sw2 a b x) = x := by
  unfold sw2
  by_cases h1 : x = a
  · rw [if_pos h1]
    by_cases h2 : b = a
    · rw [if_pos h2]; omega
    · rw [if_neg h2, if_pos rfl, h1]
  · rw [if_neg h1]
    by_cases h2 : x = b
    · rw [if_pos h2, if_pos rfl, h2]
    · rw [if_neg h2, if_neg h1, if_neg h2]
theorem sw2_in {a b x : Int} {m : Int} (ha : 0 ≤ a ∧ a < m) (hb : 0 ≤ b ∧ b < m) (hx : 0 ≤ x ∧ x < m) : 0 ≤ sw2 a b x ∧ sw2 a b x < m := by
  unfold sw2
  split
  · exact hb
  · split
    · exact ha
    · exact hx
theorem sum4_sw (H : Int → Int) {a b : Nat} (ha : a < 4) (hb : b < 4) : smI (fun c => H (sw2 (a : Int) (b : Int) (c : Int))) 4 = smI (fun c => H (c : Int)) 4 := by
  show 0 + H (sw2 a b 0) + H (sw2 a b 1) + H (sw2 a b 2) + H (sw2 a b 3) = 0 + H 0 + H 1 + H 2 + H 3
  have : (a = 0 ∨ a = 1 ∨ a = 2 ∨ a = 3) ∧ (b = 0 ∨ b = 1 ∨ b = 2 ∨ b = 3) := by omega
  obtain ⟨h1, h2⟩ := this
  rcases h1 with rfl | rfl | rfl | rfl <;> rcases h2 with rfl | rfl | rfl | rfl <;> simp [sw2] <;> omega
theorem ctW_congr (adj : Nat → Nat → Bool) (n : Nat) : ∀ (j s : Nat) (g g' : Nat → Int), s + j ≤ n → (∀ i, i < n → g i = g' i) → ctW adj n j s g = ctW adj n j s g'
  | 0, _, _, _, _, _ => rfl
  | j + 1, s, g, g', hs, h => by
    unfold ctW
    rw [h s (by omega), ctW_congr adj n j (s + 1) g g' (by omega) h]
    have : (fun c : Nat => if frP adj g n s (c : Int) = true then ctW adj n j (s + 1) (up1 g s (c : Int)) else 0) = (fun c : Nat => if frP adj g' n s (c : Int) = true then ctW adj n j (s + 1) (up1 g' s (c : Int)) else 0) := by
      funext c
      rw [frP_congr h, ctW_congr adj n j (s + 1) (up1 g s (c : Int)) (up1 g' s (c : Int)) (by omega) (fun i hi => by
        by_cases e : i = s
        · subst e; rw [up1_same, up1_same]
        · rw [up1_o _ e, up1_o _ e]; exact h i hi)]
    rw [this]
theorem ctW_sw (adj : Nat → Nat → Bool) (n : Nat) {a b : Nat} (ha : a < 4) (hb : b < 4) : ∀ (j s : Nat) (g : Nat → Int), s + j ≤ n → ctW adj n j s (fun i => sw2 (a : Int) (b : Int) (g i)) = ctW adj n j s g
  | 0, _, _, _ => rfl
  | j + 1, s, g, hs => by
    have hneg : sw2 (a : Int) (b : Int) (-1) = -1 := by unfold sw2; rw [if_neg (by omega), if_neg (by omega)]
    have hm : sw2 (a : Int) (b : Int) (g s) ≠ -1 ↔ g s ≠ -1 := by
      constructor
      · intro q w; rw [w] at q; exact q hneg
      · intro q w
        apply q
        have := sw2_sw2 (a : Int) (b : Int) (g s)
        rw [w, hneg] at this
        exact this.symm
    unfold ctW
    by_cases hc : g s ≠ -1
    · rw [if_pos (hm.mpr hc), if_pos hc]
      exact ctW_sw adj n ha hb j (s + 1) g (by omega)
    · rw [if_neg (fun q => hc (hm.mp q)), if_neg hc]
      rw [← sum4_sw (fun c => if frP adj g n s c = true then ctW adj n j (s + 1) (up1 g s c) else 0) ha hb]
      congr 1
      funext c
      have e1 : frP adj (fun i => sw2 (a : Int) (b : Int) (g i)) n s (c : Int) = frP adj g n s (sw2 (a : Int) (b : Int) (c : Int)) := by
        refine allB_congr (fun i _ => ?_)
        congr 1
        have : (sw2 (a : Int) (b : Int) (g i) ≠ (c : Int)) ↔ (g i ≠ sw2 (a : Int) (b : Int) (c : Int)) := by
          constructor
          · intro q w; apply q; rw [w, sw2_sw2]
          · intro q w; apply q; rw [← w, sw2_sw2]
        by_cases q : sw2 (a : Int) (b : Int) (g i) ≠ (c : Int)
        · rw [decide_eq_true q, decide_eq_true (this.mp q)]
        · rw [decide_eq_false q, decide_eq_false (fun w => q (this.mpr w))]
      rw [e1]
      have e2 : ctW adj n j (s + 1) (up1 (fun i => sw2 (a : Int) (b : Int) (g i)) s (c : Int)) = ctW adj n j (s + 1) (up1 g s (sw2 (a : Int) (b : Int) (c : Int))) := by
        rw [← ctW_sw adj n ha hb j (s + 1) (up1 g s (sw2 (a : Int) (b : Int) (c : Int))) (by omega)]
        refine ctW_congr adj n j (s + 1) _ _ (by omega) (fun i _ => ?_)
        by_cases e : i = s
        · subst e; rw [up1_same, up1_same, sw2_sw2]
        · rw [up1_o _ e, up1_o _ e]
      rw [e2]
/-- colours that none has are alike -/
theorem ctW_unused (adj : Nat → Nat → Bool) {n j s a b : Nat} {g : Nat → Int} (ha : a < 4) (hb : b < 4) (hs : s + (j + 1) ≤ n) (ua : ∀ i, i < n → g i ≠ (a : Int)) (ub : ∀ i, i < n → g i ≠ (b : Int)) : ctW adj n j (s + 1) (up1 g s (a : Int)) = ctW adj n j (s + 1) (up1 g s (b : Int)) := by
  rw [← ctW_sw adj n ha hb j (s + 1) (up1 g s (b : Int)) (by omega)]
  refine ctW_congr adj n j (s + 1) _ _ (by omega) (fun i hi => ?_)
  by_cases e : i = s
  · subst e
    rw [up1_same, up1_same]
    unfold sw2
    by_cases q : (b : Int) = (a : Int)
    · rw [if_pos q]; omega
    · rw [if_neg q, if_pos rfl]
  · rw [up1_o _ e, up1_o _ e]
    unfold sw2
    rw [if_neg (ua i hi), if_neg (ub i hi)]
end
