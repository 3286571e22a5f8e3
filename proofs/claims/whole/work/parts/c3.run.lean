/-! ===== runs of a colouring ===== -/
noncomputable section
def fzB (r code q : Int) (k : Nat) : Bool := decide (cAt r code (k : Int) = 0 ∨ cAt r code (k : Int) = q + 1)
/-- runs counted from place 0 on -/
def rnK (r code q : Int) : Nat → Int
  | 0 => 0
  | k + 1 => if fzB r code q (k + 1) = fzB r code q k then rnK r code q k else rnK r code q k + 1
theorem rnK_in (r code q : Int) : ∀ k : Nat, 0 ≤ rnK r code q k ∧ rnK r code q k ≤ k
  | 0 => ⟨Int.le_refl 0, Int.le_refl 0⟩
  | k + 1 => by
    have := rnK_in r code q k
    unfold rnK
    split <;> omega
theorem rnK_mono (r code q : Int) {i : Nat} : ∀ {k : Nat}, i ≤ k → rnK r code q i ≤ rnK r code q k := by
  intro k h
  induction h with
  | refl => exact Int.le_refl _
  | @step m _ ih =>
    refine Int.le_trans ih ?_
    have e : rnK r code q (m + 1) = if fzB r code q (m + 1) = fzB r code q m then rnK r code q m else rnK r code q m + 1 := rfl
    rw [e]
    split <;> omega
/-- whether the last run is the first one too -/
def rnM (r code q : Int) : Bool := decide (rnK r code q (r.toNat - 1) ≠ 0) && fzB r code q (r.toNat - 1)
def rnC (r code q : Int) : Int := if rnM r code q = true then rnK r code q (r.toNat - 1) else rnK r code q (r.toNat - 1) + 1
def rnA (r code q : Int) (k : Nat) : Int := if rnM r code q = true ∧ rnK r code q k = rnK r code q (r.toNat - 1) then 0 else rnK r code q k
theorem rnC_in {r code q : Int} (hr : 1 ≤ r ∧ r ≤ 7) : 1 ≤ rnC r code q ∧ rnC r code q ≤ 7 := by
  have := rnK_in r code q (r.toNat - 1)
  unfold rnC rnM
  split
  · rename_i h
    have h := (Bool.and_eq_true_iff.mp h).1
    have h := of_decide_eq_true h
    omega
  · omega
section
variable {d : Nat} {I : Nat → Nat → Int} {S : PS}
def lrI (I : Nat → Nat → Int) (r code q : Int) : Nat → Nat → Int := up1 (up2 I 156 37 (rnC r code q)) 175 (upTo (I 175) (rnA r code q) 0 r.toNat)
theorem c_X12_laysRuns {x1 x2 x3 : Int} (hl0 : LyX12 S) (hp : 0 ≤ x1 ∧ x1 < 4) (hr : 1 ≤ I 159 ((20 * x1) + 9).toNat ∧ I 159 ((20 * x1) + 9).toNat ≤ 7) (hq : 0 ≤ x3 ∧ x3 ≤ 2) : Ca (d + 2) mX12_laysRuns [vR (some (22, 0, 156)), vI x1, vI x2, vI x3] (I, S) (.inl none) (lrI I (I 159 ((20 * x1) + 9).toNat) x2 x3, S) := by
  obtain ⟨r, hr0⟩ : ∃ r, r = I 159 ((20 * x1) + 9).toNat := ⟨_, rfl⟩
  rw [← hr0] at hr ⊢
  refine w_X12_laysRuns_0 hl0 ?_
  -- the last run is the first
  have tail : rnM r x2 x3 = true → ∀ (t k : Nat) (J : Nat → Nat → Int), k + t = r.toNat → J = up1 (up2 I 156 37 (rnK r x2 x3 (r.toNat - 1))) 175 (upTo (upTo (I 175) (rnK r x2 x3) 0 r.toNat) (rnA r x2 x3) 0 k) → L_X12_laysRuns_130 d 156 x1 x2 x3 (k : Int) J S (lrI I r x2 x3, S) := by
    intro hM t
    have hne := of_decide_eq_true (Bool.and_eq_true_iff.mp hM).1
    have hin := rnK_in r x2 x3 (r.toNat - 1)
    induction t with
    | zero =>
      intro k J hk hJ
      have jr : J 159 ((20 * x1) + 9).toNat = r := by rw [hJ]; exact hr0.symm
      refine w_X12_laysRuns_130 hl0 (fun h => absurd h (by omega)) (e1 := fun _ => ?_) (v3 := fun h => absurd h (by omega))
      rw [hJ]
      unfold lrI rnC
      rw [if_pos hM, show k = r.toNat by omega]
      congr 2
      funext j
      unfold upTo
      by_cases h : 0 ≤ j ∧ j < 0 + r.toNat
      · rw [if_pos h, if_pos h]
      · rw [if_neg h, if_neg h, if_neg h]
    | succ t ih =>
      intro k J hk hJ
      have jr : J 159 ((20 * x1) + 9).toNat = r := by rw [hJ]; exact hr0.symm
      have j37 : J 156 37 = rnK r x2 x3 (r.toNat - 1) := by rw [hJ]; rfl
      have hk2 := rnK_in r x2 x3 k
      have hmo := rnK_mono r x2 x3 (i := k) (k := r.toNat - 1) (by omega)
      have jk : J 175 (k : Int).toNat = rnK r x2 x3 k := by rw [hJ, Int.toNat_natCast, up1_same, upTo_out (by omega), upTo_in (by omega)]
      refine w_X12_laysRuns_130 hl0 (fun _ => ih (k + 1) _ (by omega) ?_) (e1 := fun h => absurd h (by omega)) (v3 := fun _ => by omega)
      rw [j37, jk, hJ]
      refine upTo_step (by omega) ?_
      rw [Nat.zero_add]
      unfold rnA
      by_cases e : rnK r x2 x3 k = rnK r x2 x3 (r.toNat - 1)
      · rw [if_pos ⟨hM, e⟩, e, Int.emod_self]
      · rw [if_neg (fun w => e w.2), Int.emod_eq_of_lt (by omega) (by omega)]
  have main : ∀ (t k : Nat) (J : Nat → Nat → Int), k + t = r.toNat → J = up1 (up2 I 156 37 (rnK r x2 x3 (k - 1))) 175 (upTo (I 175) (rnK r x2 x3) 0 k) → L_X12_laysRuns_8 d 156 x1 x2 x3 (k : Int) J S (lrI I r x2 x3, S) := by
    intro t
    induction t with
    | zero =>
      intro k J hk hJ
      have hkr : k = r.toNat := by omega
      have jr : J 159 ((20 * x1) + 9).toNat = r := by rw [hJ]; exact hr0.symm
      have j37 : J 156 37 = rnK r x2 x3 (r.toNat - 1) := by rw [hJ, hkr]; rfl
      have hin := rnK_in r x2 x3 (r.toNat - 1)
      have hfz : (((p_and (p_shr x2 (2 * (((J 159 ((20 * x1) + 9).toNat) - 1) - ((J 159 ((20 * x1) + 9).toNat) - 1)))) 3) = 0) ∨ ((p_and (p_shr x2 (2 * (((J 159 ((20 * x1) + 9).toNat) - 1) - ((J 159 ((20 * x1) + 9).toNat) - 1)))) 3) = x3 + 1)) ↔ fzB r x2 x3 (r.toNat - 1) = true := by
        unfold fzB
        rw [decide_eq_true_iff, jr, show ((r.toNat - 1 : Nat) : Int) = r - 1 by omega]
      have out : rnM r x2 x3 = false → up2 J 156 37 (J 156 37 + 1) = lrI I r x2 x3 := fun hM => by
        rw [j37, hJ, hkr]
        unfold lrI rnC
        rw [if_neg (by rw [hM]; decide)]
        have e2 : ∀ (X : Nat → Nat → Int) (g : Nat → Int) (v w : Int), up2 (up1 (up2 X 156 37 v) 175 g) 156 37 w = up1 (up2 X 156 37 w) 175 g := by
          intro X g v w
          funext a j
          unfold up2 up1
          by_cases h1 : a = 156 ∧ j = 37
          · rw [if_pos h1, if_neg (show ¬(a = 175) by omega)]; show w = if a = 156 ∧ j = 37 then w else _; rw [if_pos h1]
          · rw [if_neg h1]
            by_cases h2 : a = 175
            · rw [if_pos h2, if_pos h2]
            · rw [if_neg h2, if_neg h2]; show (if a = 156 ∧ j = 37 then v else _) = if a = 156 ∧ j = 37 then w else _; rw [if_neg h1, if_neg h1]
        rw [e2]
        congr 1
        funext j
        unfold upTo
        by_cases h : 0 ≤ j ∧ j < 0 + r.toNat
        · rw [if_pos h, if_pos h]
          unfold rnA
          rw [if_neg (fun w => by rw [hM] at w; exact absurd w.1 (by decide))]
        · rw [if_neg h, if_neg h]
      refine w_X12_laysRuns_8 hl0 (fun _ h1 h2 => ?_) (fun h => absurd h (by omega)) (fun h => absurd h (by omega)) (fun h => absurd h (by omega)) (e1 := fun _ h1 => ?_) (e2 := fun _ h1 h2 => ?_) (v4 := fun _ _ => by omega) (v5 := fun _ _ => by omega)
      · have hM : rnM r x2 x3 = true := by
          unfold rnM
          rw [hfz.mp h2, decide_eq_true (by omega)]
          rfl
        refine tail hM r.toNat 0 _ (by omega) ?_
        rw [upTo_zero, j37, up2_up2, hJ, hkr]
        funext a j
        unfold up2 up1
        by_cases h1 : a = 156 ∧ j = 37
        · rw [if_pos h1, if_neg (show ¬(a = 175) by omega)]; show _ = if a = 156 ∧ j = 37 then _ else _; rw [if_pos h1]; omega
        · rw [if_neg h1]
      · refine prEq (out ?_) rfl
        unfold rnM
        rw [decide_eq_false (by omega), Bool.false_and]
      · refine prEq (out ?_) rfl
        unfold rnM
        rw [Bool.eq_false_iff.mpr (fun w => h2 (hfz.mpr w)), Bool.and_false]
    | succ t ih =>
      intro k J hk hJ
      have jr : J 159 ((20 * x1) + 9).toNat = r := by rw [hJ]; exact hr0.symm
      have j37 : J 156 37 = rnK r x2 x3 (k - 1) := by rw [hJ]; rfl
      have hin := rnK_in r x2 x3 (k - 1)
      have set_ : ∀ v : Int, v = rnK r x2 x3 k → up2 (up2 J 156 37 v) 175 ((k : Int).toNat) v = up1 (up2 I 156 37 (rnK r x2 x3 (k + 1 - 1))) 175 (upTo (I 175) (rnK r x2 x3) 0 (k + 1)) := fun v hv => by
        rw [hJ, Int.toNat_natCast, Nat.add_sub_cancel, ← hv]
        have e2 : ∀ (X : Nat → Nat → Int) (g : Nat → Int) (v w : Int), up2 (up1 (up2 X 156 37 v) 175 g) 156 37 w = up1 (up2 X 156 37 w) 175 g := by
          intro X g v w
          funext a j
          unfold up2 up1
          by_cases h1 : a = 156 ∧ j = 37
          · rw [if_pos h1, if_neg (show ¬(a = 175) by omega)]; show w = if a = 156 ∧ j = 37 then w else _; rw [if_pos h1]
          · rw [if_neg h1]
            by_cases h2 : a = 175
            · rw [if_pos h2, if_pos h2]
            · rw [if_neg h2, if_neg h2]; show (if a = 156 ∧ j = 37 then v else _) = if a = 156 ∧ j = 37 then w else _; rw [if_neg h1, if_neg h1]
        rw [e2]
        exact upTo_step (by omega) (by rw [Nat.zero_add]; exact hv)
      have set0 : J 156 37 = rnK r x2 x3 k → up2 J 175 ((k : Int).toNat) (J 156 37) = up1 (up2 I 156 37 (rnK r x2 x3 (k + 1 - 1))) 175 (upTo (I 175) (rnK r x2 x3) 0 (k + 1)) := fun h => by
        have := set_ (J 156 37) h
        rw [up2_self] at this
        exact this
      have hfk : ∀ i : Nat, (((p_and (p_shr x2 (2 * (((J 159 ((20 * x1) + 9).toNat) - 1) - (i : Int)))) 3) = 0) ∨ ((p_and (p_shr x2 (2 * (((J 159 ((20 * x1) + 9).toNat) - 1) - (i : Int)))) 3) = x3 + 1)) ↔ fzB r x2 x3 i = true := fun i => by
        unfold fzB
        rw [decide_eq_true_iff, jr]
      have hcmp : 0 < k → (((if ((p_and (p_shr x2 (2 * (((J 159 ((20 * x1) + 9).toNat) - 1) - (k : Int)))) 3) = 0) ∨ ((p_and (p_shr x2 (2 * (((J 159 ((20 * x1) + 9).toNat) - 1) - (k : Int)))) 3) = x3 + 1) then (1 : Int) else 0) = (if ((p_and (p_shr x2 (2 * (((J 159 ((20 * x1) + 9).toNat) - 1) - ((k : Int) - 1)))) 3) = 0) ∨ ((p_and (p_shr x2 (2 * (((J 159 ((20 * x1) + 9).toNat) - 1) - ((k : Int) - 1)))) 3) = x3 + 1) then (1 : Int) else 0)) ↔ fzB r x2 x3 k = fzB r x2 x3 (k - 1)) := fun h0 => by
        have h1 := hfk k
        have h2 := hfk (k - 1)
        rw [show ((k - 1 : Nat) : Int) = (k : Int) - 1 by omega] at h2
        rw [ite_iff h1, ite_iff h2]
        cases fzB r x2 x3 k <;> cases fzB r x2 x3 (k - 1) <;> decide
      have hst : 0 < k → rnK r x2 x3 k = if fzB r x2 x3 k = fzB r x2 x3 (k - 1) then rnK r x2 x3 (k - 1) else rnK r x2 x3 (k - 1) + 1 := fun h0 => by
        obtain ⟨j, rfl⟩ : ∃ j, k = j + 1 := ⟨k - 1, by omega⟩
        rfl
      refine w_X12_laysRuns_8 hl0 (fun h => absurd h (by omega)) (fun _ h => ih (k + 1) _ (by omega) ?_) (fun _ h0 h => ih (k + 1) _ (by omega) ?_) (fun _ h0 h => ih (k + 1) _ (by omega) ?_) (e1 := fun h => absurd h (by omega)) (e2 := fun h => absurd h (by omega)) (v4 := fun h => absurd h (by omega)) (v5 := fun h => absurd h (by omega))
      · refine set0 ?_
        rw [j37, show k = 0 by omega]
      · refine set0 ?_
        rw [j37, hst (by omega), if_pos ((hcmp (by omega)).mp h)]
      · refine set_ _ ?_
        rw [j37, hst (by omega), if_neg (fun w => h ((hcmp (by omega)).mpr w))]
  refine main r.toNat 0 _ (by omega) ?_
  rw [upTo_zero]
  exact (up1_self (up2 I 156 37 0) 175).symm
def spI (I : Nat → Nat → Int) (a0 : Nat) (r code q : Int) : Nat → Nat → Int := up1 I (a0 + 2) (upTo (I (a0 + 2)) (rnA r code q) 0 r.toNat)
theorem c_X6_split {a0 : Nat} {x1 x2 : Int} (hl0 : LyX6 S a0) (hr : 1 ≤ I a0 0 ∧ I a0 0 ≤ 7) (h0 : cAt (I a0 0) x1 0 = 0) (hq : 0 ≤ x2 ∧ x2 ≤ 2) : Ca d mX6_split [vR (some (16, 0, a0)), vI x1, vI x2] (I, S) (.inl (some (vI (rnC (I a0 0) x1 x2)))) (spI I a0 (I a0 0) x1 x2, S) := by
  obtain ⟨r, hr0⟩ : ∃ r, r = I a0 0 := ⟨_, rfl⟩
  rw [← hr0] at hr h0 ⊢
  refine w_X6_split_0 hl0 ?_
  have hf0 : fzB r x1 x2 0 = true := decide_eq_true (Or.inl h0)
  -- the last run is the first
  have tail : rnM r x1 x2 = true → ∀ (k : Nat) (J : Nat → Nat → Int), k ≤ r.toNat → (∀ a, a ≠ a0 + 2 → J a = I a) → (∀ i, i < k → J (a0 + 2) i = rnK r x1 x2 i) → (∀ i, k ≤ i → i < r.toNat → J (a0 + 2) i = 0 ∧ rnK r x1 x2 i = rnK r x1 x2 (r.toNat - 1)) → (∀ i, r.toNat ≤ i → J (a0 + 2) i = I (a0 + 2) i) → L_X6_split_103 d a0 x1 x2 (rnK r x1 x2 (r.toNat - 1)) 1 ((k : Int) - 1) J S (rnC r x1 x2) (spI I a0 r x1 x2, S) := by
    intro hM k
    have hne := of_decide_eq_true (Bool.and_eq_true_iff.mp hM).1
    have hC : rnC r x1 x2 = rnK r x1 x2 (r.toNat - 1) := by unfold rnC; rw [if_pos hM]
    have fin : ∀ (k : Nat) (J : Nat → Nat → Int), k ≤ r.toNat → (∀ i, i < k → rnK r x1 x2 i ≠ rnK r x1 x2 (r.toNat - 1)) → (∀ a, a ≠ a0 + 2 → J a = I a) → (∀ i, i < k → J (a0 + 2) i = rnK r x1 x2 i) → (∀ i, k ≤ i → i < r.toNat → J (a0 + 2) i = 0 ∧ rnK r x1 x2 i = rnK r x1 x2 (r.toNat - 1)) → (∀ i, r.toNat ≤ i → J (a0 + 2) i = I (a0 + 2) i) → J = spI I a0 r x1 x2 := by
      intro k J hk hno hf h1 h2 h3
      unfold spI
      funext a j
      by_cases ha : a = a0 + 2
      · subst ha
        rw [up1_same]
        unfold upTo
        by_cases hj : 0 ≤ j ∧ j < 0 + r.toNat
        · rw [if_pos hj]
          unfold rnA
          by_cases hjk : j < k
          · rw [h1 j hjk, if_neg (fun w => hno j hjk w.2)]
          · have := h2 j (by omega) (by omega)
            rw [this.1, if_pos ⟨hM, this.2⟩]
        · rw [if_neg hj]; exact h3 j (by omega)
      · rw [up1_o _ ha, hf a ha]
    induction k with
    | zero =>
      intro J hk hf h1 h2 h3
      refine w_X6_split_103 hl0 (fun h => absurd h (by omega)) (fun _ => hC.symm) (e1 := fun _ => ?_) (r2 := fun h => absurd h (by omega)) (e2 := fun h => absurd h (by omega)) (v1 := fun h => absurd h (by omega))
      rw [fin 0 J (by omega) (fun i hi => absurd hi (by omega)) hf h1 h2 h3]
    | succ k ih =>
      intro J hk hf h1 h2 h3
      have ek : ((k + 1 : Nat) : Int) - 1 = (k : Int) := by omega
      rw [ek]
      have jk : J (a0 + 2) (k : Int).toNat = rnK r x1 x2 k := by rw [Int.toNat_natCast]; exact h1 k (by omega)
      refine w_X6_split_103 hl0 (fun _ h => ?_) (fun h => absurd h (by omega)) (e1 := fun h => absurd h (by omega)) (r2 := fun _ _ => hC.symm) (e2 := fun _ h => ?_)
      · rw [jk] at h
        refine ih _ (by omega) (fun a ha => by funext j; rw [up2_a _ ha, hf a ha]) (fun i hi => by rw [up2_k _ (by omega)]; exact h1 i (by omega)) (fun i w1 w2 => ?_) (fun i hi => by rw [up2_k _ (by omega)]; exact h3 i hi)
        by_cases e : i = k
        · rw [e, Int.toNat_natCast, up2_same]; exact ⟨rfl, h⟩
        · rw [up2_k _ (by omega)]; exact h2 i (by omega) w2
      · rw [jk] at h
        rw [fin (k + 1) J hk (fun i hi w => ?_) hf h1 h2 h3]
        have m1 := rnK_mono r x1 x2 (i := i) (k := k) (by omega)
        have m2 := rnK_mono r x1 x2 (i := k) (k := r.toNat - 1) (by omega)
        omega
  have main : ∀ (t k : Nat) (J : Nat → Nat → Int), k + t = r.toNat → J = up1 I (a0 + 2) (upTo (I (a0 + 2)) (rnK r x1 x2) 0 k) → L_X6_split_8 d a0 x1 x2 (rnK r x1 x2 (k - 1)) (if fzB r x1 x2 (k - 1) = true then 1 else 0) (k : Int) J S (rnC r x1 x2) (spI I a0 r x1 x2, S) := by
    intro t
    induction t with
    | zero =>
      intro k J hk hJ
      have hkr : k = r.toNat := by omega
      have jr : J a0 0 = r := by rw [hJ, up1_o _ (by omega)]; exact hr0.symm
      have hin := rnK_in r x1 x2 (r.toNat - 1)
      have out : rnM r x1 x2 = false → J = spI I a0 r x1 x2 ∧ rnK r x1 x2 (r.toNat - 1) + 1 = rnC r x1 x2 := fun hM => by
        constructor
        · rw [hJ, hkr]
          unfold spI
          congr 1
          funext j
          unfold upTo
          by_cases h : 0 ≤ j ∧ j < 0 + r.toNat
          · rw [if_pos h, if_pos h]
            unfold rnA
            rw [if_neg (fun w => by rw [hM] at w; exact absurd w.1 (by decide))]
          · rw [if_neg h, if_neg h]
        · unfold rnC; rw [if_neg (by rw [hM]; decide)]
      rw [hkr] at hJ ⊢
      refine w_X6_split_8 hl0 (fun _ h1 h2 => ?_) (fun h => absurd h (by omega)) (fun _ h1 => ?_) (e1 := fun _ h1 => ?_) (r2 := fun _ h1 h2 => ?_) (e2 := fun _ h1 h2 => ?_)
      · have hM : rnM r x1 x2 = true := by unfold rnM; rw [decide_eq_true h1, b2t h2]; rfl
        have := tail hM r.toNat J (Nat.le_refl _) (fun a ha => by rw [hJ, up1_o _ ha]) (fun i hi => by rw [hJ, up1_same, upTo_in (by omega)]) (fun i w1 w2 => absurd w2 (by omega)) (fun i hi => by rw [hJ, up1_same, upTo_out (by omega)])
        rw [if_pos (b2t h2), jr]
        rw [show ((r.toNat : Nat) : Int) = r by omega] at this
        exact this
      · exact (out (by unfold rnM; rw [decide_eq_false (fun w => w h1), Bool.false_and])).2
      · rw [(out (by unfold rnM; rw [decide_eq_false (fun w => w h1), Bool.false_and])).1]
      · exact (out (by unfold rnM; rw [Bool.eq_false_iff.mpr (b2f h2), Bool.and_false])).2
      · rw [(out (by unfold rnM; rw [Bool.eq_false_iff.mpr (b2f h2), Bool.and_false])).1]
    | succ t ih =>
      intro k J hk hJ
      have jr : J a0 0 = r := by rw [hJ, up1_o _ (by omega)]; exact hr0.symm
      have hin := rnK_in r x1 x2 (k - 1)
      have hfk : (if (p_and (p_shr x1 (2 * (J a0 0 - 1 - (k : Int)))) 3 = 0) ∨ (p_and (p_shr x1 (2 * (J a0 0 - 1 - (k : Int)))) 3 = x2 + 1) then (1 : Int) else 0) = if fzB r x1 x2 k = true then 1 else 0 := by
        refine ite_iff ?_
        unfold fzB
        rw [decide_eq_true_iff, jr]
      have hval : (if (if fzB r x1 x2 k = true then (1 : Int) else 0) = (if fzB r x1 x2 (k - 1) = true then 1 else 0) then rnK r x1 x2 (k - 1) else rnK r x1 x2 (k - 1) + 1) = rnK r x1 x2 k := by
        by_cases h0 : k = 0
        · subst h0; rw [if_pos rfl]
        · obtain ⟨j, rfl⟩ : ∃ j, k = j + 1 := ⟨k - 1, by omega⟩
          rw [Nat.add_sub_cancel]
          show _ = if fzB r x1 x2 (j + 1) = fzB r x1 x2 j then rnK r x1 x2 j else rnK r x1 x2 j + 1
          cases fzB r x1 x2 (j + 1) <;> cases fzB r x1 x2 j <;> rfl
      refine w_X6_split_8 hl0 (fun h => absurd h (by omega)) (fun _ => ?_) (fun h => absurd h (by omega)) (e1 := fun h => absurd h (by omega)) (r2 := fun h => absurd h (by omega)) (e2 := fun h => absurd h (by omega))
      rw [hfk, hval]
      have := ih (k + 1) (up2 J (a0 + 2) ((k : Int).toNat) (rnK r x1 x2 k)) (by omega) (by rw [hJ]; exact upTo_step (by omega) (by rw [Nat.zero_add]))
      rw [Nat.add_sub_cancel] at this
      exact this
  have := main r.toNat 0 I (by omega) (by rw [upTo_zero]; exact (up1_self I (a0 + 2)).symm)
  rw [show fzB r x1 x2 (0 - 1) = true from hf0, if_pos rfl] at this
  exact this
end
end
