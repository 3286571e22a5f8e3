/-! ===== whether some switch leads below, the class's ===== -/
noncomputable section
def lbT (b L : Nat → Int) (at0 lvl s : Int) : Bool := decide ((0 ≤ b ((at0 * 16) + s).toNat) ∧ ((0 ≤ L (b ((at0 * 16) + s).toNat).toNat) ∧ (L (b ((at0 * 16) + s).toNat).toNat < lvl)))
def lbR (b L sw : Nat → Int) (at0 lvl : Int) (per k : Nat) : Bool := anyB (fun j => lbT b L at0 lvl (sw (k * per + j))) per
def lbPer (many : Int) : Nat := if 2 < many then (if 4 < many then 4 else 2) else 1
def lbRows (many : Int) : Nat := if 2 < many then (if 4 < many then 5 else 2) else 1
def lbNo (many : Int) : Nat := if 2 < many then (if 4 < many then 3 else 2) else 1
section
variable {d : Nat} {I : Nat → Nat → Int} {S : PS}
def lbB (I : Nat → Nat → Int) (a0 a2 : Nat) (at0 lvl : Int) : Bool := allB (lbR (I (a0 + 4)) (I a2) (I (lbNo (I (a0 + 3) at0.toNat))) at0 lvl (lbPer (I (a0 + 3) at0.toNat))) (lbRows (I (a0 + 3) at0.toNat))
theorem c_X6_leadsBelowBy {a0 n2 a2 : Nat} {x1 x3 : Int} (hl0 : LyX6 S a0) (hat : 0 ≤ x1 ∧ x1 < 3 * (rc S a0 : Nat)) (hrc : rc S a0 ≤ 91) (hsw : ∀ k i : Nat, 1 ≤ k → k < 4 → 0 ≤ I k i ∧ I k i < 16) (hb : ∀ i : Nat, I (a0 + 4) i < (n2 : Nat)) : Ca d mX6_leadsBelowBy [vR (some (16, 0, a0)), vI x1, vR (some (1, n2, a2)), vI x3] (I, S) (.inl (some (vI (if lbB I a0 a2 x1 x3 = true then 1 else 0)))) (I, S) := by
  obtain ⟨many, hmany⟩ : ∃ many, many = I (a0 + 3) x1.toNat := ⟨_, rfl⟩
  obtain ⟨per, hper⟩ : ∃ per, per = lbPer many := ⟨_, rfl⟩
  obtain ⟨rows, hrows⟩ : ∃ rows, rows = lbRows many := ⟨_, rfl⟩
  obtain ⟨no, hno0⟩ : ∃ no, no = lbNo many := ⟨_, rfl⟩
  obtain ⟨P, hP⟩ : ∃ P, P = lbR (I (a0 + 4)) (I a2) (I no) x1 x3 per := ⟨_, rfl⟩
  have hB : lbB I a0 a2 x1 x3 = allB P rows := by unfold lbB; rw [← hmany, ← hper, ← hrows, ← hno0, ← hP]
  rw [hB]
  have hshape : ((if 2 < many then (if 4 < many then 20 else 4) else 1 : Nat) = rows * per ∧ (if 2 < many then (if 4 < many then 3 else 2) else 1 : Nat) = no ∧ (if 2 < many then ((if 4 < many then (4 : Int) else 2) : Int) else 1) = (per : Int)) ∧ 1 ≤ per ∧ per ≤ 4 ∧ rows ≤ 5 ∧ 1 ≤ no ∧ no < 4 := by
    rw [hper, hrows, hno0]
    unfold lbPer lbRows lbNo
    by_cases h2 : 2 < many
    · by_cases h4 : 4 < many
      · simp [h2, h4]
      · simp [h2, h4]
    · simp [h2]
  obtain ⟨⟨e1, e2, e3⟩, p1, p4, r5, n1, n4⟩ := hshape
  have outer : ∀ (t k : Nat), k + t = rows → allB P k = true → L_X6_leadsBelowBy_63 d a0 x1 n2 a2 x3 many (rows * per) no (per : Int) ((k * per : Nat) : Int) I S (if allB P rows = true then 1 else 0) (I, S) := by
    intro t
    induction t with
    | zero =>
      intro k hk hall
      have hkr : k = rows := by omega
      subst hkr
      have hb20 : k * per ≤ 20 := Nat.le_trans (Nat.mul_le_mul r5 p4) (by decide)
      exact w_X6_leadsBelowBy_63 hl0 (fun h => absurd h (by omega)) (fun _ => by rw [if_pos hall])
    | succ t ih =>
      intro k hk hall
      have hmul : (k + 1) * per ≤ rows * per := Nat.mul_le_mul_right per (by omega)
      have hsm : (k + 1) * per = k * per + per := Nat.succ_mul k per
      have hb20 : rows * per ≤ 20 := Nat.le_trans (Nat.mul_le_mul r5 p4) (by decide)
      have inner : ∀ (s j : Nat), j + s = per → anyB (fun j => lbT (I (a0 + 4)) (I a2) x1 x3 (I no (k * per + j))) j = false → L_X6_leadsBelowBy_81 d a0 x1 n2 a2 x3 many (rows * per) no (per : Int) ((k * per : Nat) : Int) 0 ((k * per + j : Nat) : Int) I S (if allB P rows = true then 1 else 0) (I, S) := by
        intro s
        induction s with
        | zero =>
          intro j hj hnone
          have hjp : j = per := by omega
          subst hjp
          have hPk : P k = false := by rw [hP]; exact hnone
          refine w_X6_leadsBelowBy_81 hl0 (fun _ h => absurd rfl h) (fun h => absurd h (by omega)) (fun h => absurd h (by omega)) (fun _ _ => ?_) (r2 := fun h => absurd h (by omega)) (v5 := fun h => absurd h (by omega)) (v6 := fun h => absurd h (by omega)) (v4 := fun h => absurd h (by omega))
          rw [allB_no (show k < rows by omega) hPk]; rfl
        | succ s ihs =>
          intro j hj hnone
          have hs1 := hsw no (k * per + j) n1 n4
          have hst : anyB (fun j => lbT (I (a0 + 4)) (I a2) x1 x3 (I no (k * per + j))) (j + 1) = (anyB (fun j => lbT (I (a0 + 4)) (I a2) x1 x3 (I no (k * per + j))) j || lbT (I (a0 + 4)) (I a2) x1 x3 (I no (k * per + j))) := rfl
          refine w_X6_leadsBelowBy_81 hl0 (fun _ h => absurd rfl h) (fun _ h => absurd rfl h) (fun _ _ => ?_) (fun h => absurd h (by omega)) (r2 := fun _ h => absurd rfl h) (e2 := fun _ h => absurd rfl h) (v5 := fun _ _ => by rw [Int.toNat_natCast]; omega) (v6 := fun _ _ h => ⟨h, hb _⟩) (v4 := fun _ _ => by rw [Int.toNat_natCast]; omega)
          rw [Int.toNat_natCast]
          by_cases hc : (0 ≤ I (a0 + 4) ((x1 * 16) + (I no (k * per + j))).toNat) ∧ ((0 ≤ I a2 (I (a0 + 4) ((x1 * 16) + (I no (k * per + j))).toNat).toNat) ∧ (I a2 (I (a0 + 4) ((x1 * 16) + (I no (k * per + j))).toNat).toNat < x3))
          · rw [if_pos hc]
            have hPk : P k = true := by rw [hP]; exact anyB_yes (show j < per by omega) (decide_eq_true hc)
            have hL := ih (k + 1) (by omega) (allB_succ hall hPk)
            rw [hsm] at hL
            exact w_X6_leadsBelowBy_81 hl0 (fun _ _ => hL) (fun _ _ _ => hL) (fun _ h => absurd h (by decide)) (fun _ h => absurd h (by decide)) (r2 := fun _ _ h => absurd h (by decide)) (e1 := fun _ h => absurd h (by decide)) (e2 := fun _ _ h => absurd h (by decide)) (v5 := fun _ h => absurd h (by decide)) (v6 := fun _ h => absurd h (by decide)) (v4 := fun _ h => absurd h (by decide)) (v3 := fun _ h => absurd h (by decide))
          · rw [if_neg hc]
            have := ihs (j + 1) (by omega) (by rw [hst, hnone, Bool.false_or]; exact decide_eq_false hc)
            exact this
      exact w_X6_leadsBelowBy_63 hl0 (fun _ => inner per 0 (by omega) rfl) (fun h => absurd h (by omega))
  refine w_X6_leadsBelowBy_0 hl0 ?_ (v1 := by omega)
  rw [← hmany, e1, e2, e3]
  have := outer rows 0 (by omega) rfl
  rw [Nat.zero_mul] at this
  exact this
end
end
