noncomputable section
/-- colours of a chain change places -/
def swR (f : Nat → Int) (b : Nat) (set c its : Int) (k : Nat) : Nat → Int := fun j => if (b ≤ j ∧ j < b + k) ∧ bt set (j - b) = true then (if f j ≠ c then (c : Int) else its) else f j
theorem swR_zero (f : Nat → Int) (b : Nat) (set c its : Int) : swR f b set c its 0 = f := by
  funext j; unfold swR; rw [if_neg (fun q => by have := q.1; omega)]
theorem swR_no {f : Nat → Int} {b : Nat} {set c its : Int} {k : Nat} (h : bt set k = false) : swR f b set c its (k + 1) = swR f b set c its k := by
  funext j
  unfold swR
  by_cases e : j = b + k
  · subst e
    rw [if_neg (fun q => by have := q.2; rw [Nat.add_sub_cancel_left, h] at this; cases this), if_neg (fun q => by have := q.1; omega)]
  · by_cases q : (b ≤ j ∧ j < b + k) ∧ bt set (j - b) = true
    · rw [if_pos ⟨by omega, q.2⟩, if_pos q]
    · rw [if_neg (fun w => q ⟨by omega, w.2⟩), if_neg q]
theorem swR_yes {f : Nat → Int} {b : Nat} {set c its : Int} {k : Nat} (h : bt set k = true) : swR f b set c its (k + 1) = up1 (swR f b set c its k) (b + k) (if f (b + k) ≠ c then (c : Int) else its) := by
  funext j
  unfold up1
  by_cases e : j = b + k
  · subst e
    rw [if_pos rfl]
    unfold swR
    rw [if_pos ⟨by omega, by rw [Nat.add_sub_cancel_left]; exact h⟩]
  · rw [if_neg e]
    unfold swR
    by_cases q : (b ≤ j ∧ j < b + k) ∧ bt set (j - b) = true
    · rw [if_pos ⟨by omega, q.2⟩, if_pos q]
    · rw [if_neg (fun w => q ⟨by omega, w.2⟩), if_neg q]
theorem swR_at {f : Nat → Int} {b : Nat} {set c its : Int} {k : Nat} : swR f b set c its k (b + k) = f (b + k) := by
  unfold swR; rw [if_neg (fun q => by have := q.1; omega)]
section
variable {d : Nat} {I : Nat → Nat → Int} {S : PS}
def swI (I : Nat → Nat → Int) (b s c : Int) : Nat → Nat → Int := up1 I 178 (swR (I 178) b.toNat (chM I b s c) c (I 178 (b + s).toNat) ((I 156 15)).toNat)
theorem c_X12_swaps {x1 x2 x3 : Int} (hl0 : LyX12 S) (hb : x1 = 0 ∨ x1 = 18) (hm : mSp I) (hn : mNb I) (hs : 0 ≤ x2 ∧ x2 < (I 156 15)) : Ca (d + 2) mX12_swaps [vR (some (22, 0, 156)), vI x1, vI x2, vI x3] (I, S) (.inl (some (vI (bcn (chM I x1 x2 x3) 15)))) (swI I x1 x2 x3, S) := by
  have hm1 := hm.1
  refine w_X12_swaps_0 hl0 ?_
  obtain ⟨set, hset⟩ : ∃ q, q = chM I x1 x2 x3 := ⟨_, rfl⟩
  obtain ⟨its, hits⟩ : ∃ q, q = I 178 (x1 + x2).toNat := ⟨_, rfl⟩
  unfold swI
  rw [← hset, ← hits]
  refine up_loopN (P := fun k => ∀ J, J = up1 I 178 (swR (I 178) x1.toNat set x3 its k) → L_X12_swaps_22 d 156 x1 x2 x3 its set k J S (bcn set 15) (up1 I 178 (swR (I 178) x1.toNat set x3 its ((I 156 15)).toNat), S)) (n := ((I 156 15)).toNat) ?_ ?_ I (by rw [swR_zero]; exact (up1_self I 178).symm)
  · intro J hJ
    have e : J 156 15 = (I 156 15) := by rw [hJ]; rfl
    exact w_X12_swaps_22 hl0 (fun h => absurd h (by omega)) (fun h => absurd h (by omega)) (fun _ => rfl) (fun _ => by rw [hJ])
  · intro k hk ih J hJ
    have e : J 156 15 = (I 156 15) := by rw [hJ]; rfl
    have tst := p_tst_1 (x := set) (s := (k : Int)) (by omega)
    rw [Int.toNat_natCast] at tst
    have ej : (x1 + (k : Int)).toNat = x1.toNat + k := by omega
    refine w_X12_swaps_22 hl0 (fun _ c => ih _ ?_) (fun _ c => ih _ ?_) (fun h => absurd h (by omega)) (fun h => absurd h (by omega))
    · have : bt set k = false := by
        cases q : bt set k with
        | false => rfl
        | true => exact absurd (tst.mpr q) c
      rw [hJ, swR_no this]
    · rw [ej, hJ, up1_same, swR_at, up2_up1, up1_up1, up1_same, ← swR_yes (tst.mp c)]
/-- one draw: the next state, what is drawn -/
def stI (x : Int) : Int := p_add (p_mul x 1103515245) 12345
theorem c_X12_draw {x1 : Int} (hl0 : LyX12 S) (hz : x1 ≠ 0) : Ca d mX12_draw [vR (some (22, 0, 156)), vI x1] (I, S) (.inl (some (vI (p_rem (p_and (p_shr (stI (I 156 58)) 16) 32767) x1)))) (up2 I 156 58 (stI (I 156 58)), S) := by
  have h := b_X12_draw_0 (d := d) (I := I) (S := S) (a0 := 156) (x1 := x1) hz
  rw [up2_same] at h
  exact Ca.of rfl rfl h
def stO (I : Nat → Nat → Int) (p what word : Int) (k : Nat) : Bool := decide (((what ≠ 0) ∧ (((what ≠ 1) ∧ (I 170 (((96 * p) + (32 * word)) + (k : Int)).toNat = 1)) ∨ ((what = 1) ∧ (I 171 (((96 * p) + (32 * word)) + (k : Int)).toNat = (-1))))) ∨ ((what = 0) ∧ (I 169 (((96 * p) + (32 * word)) + (k : Int)).toNat = 1)))
/-- a word of a set, as the reference makes it -/
def stM (I : Nat → Nat → Int) (p what word : Int) : Int := btN (fun k => stO I p what word k && decide (32 * word + (k : Int) < I 167 p.toNat)) 32
def thI (I : Nat → Nat → Int) (v : Int) : Nat → Nat → Int := up2 (up2 I 156 0 0) 156 0 v
theorem set_loop {x1 x2 x3 : Int} (hl0 : LyX12 S) (hp : 0 ≤ x1 ∧ x1 < 4) (hw : 0 ≤ x3 ∧ x3 ≤ 2) (hm : 0 ≤ I 167 x1.toNat ∧ I 167 x1.toNat ≤ 96) : L_X12_set_39 d 156 x1 x2 x3 0 0 I S (stM I x1 x2 x3) (I, S) := by
  have stay : ∀ (j k : Nat), k + j = 32 → I 167 x1.toNat ≤ 32 * x3 + (k : Int) → btN (fun k => stO I x1 x2 x3 k && decide (32 * x3 + (k : Int) < I 167 x1.toNat)) k = stM I x1 x2 x3 := by
    intro j
    induction j with
    | zero => intro k hk _; rw [show k = 32 by omega]; rfl
    | succ j ih =>
      intro k hk h
      rw [← ih (k + 1) (by omega) (by omega)]
      show _ = if (stO I x1 x2 x3 k && decide (32 * x3 + (k : Int) < I 167 x1.toNat)) = true then _ else _
      rw [decide_eq_false (by omega), Bool.and_false]
      rfl
  refine up_loopN (P := fun k => L_X12_set_39 d 156 x1 x2 x3 (btN (fun k => stO I x1 x2 x3 k && decide (32 * x3 + (k : Int) < I 167 x1.toNat)) k) k I S (stM I x1 x2 x3) (I, S)) (n := 32) ?_ ?_
  · exact w_X12_set_39 hl0 (fun h => absurd h (by decide)) (fun _ => rfl) (r2 := fun h => absurd h (by decide))
  · intro k hk ih
    refine w_X12_set_39 hl0 (fun _ c => ?_) (fun h => absurd h (by omega)) (r2 := fun _ c => stay (32 - k) k (by omega) c)
    have e : btN (fun k => stO I x1 x2 x3 k && decide (32 * x3 + (k : Int) < I 167 x1.toNat)) (k + 1) = p_or (btN (fun k => stO I x1 x2 x3 k && decide (32 * x3 + (k : Int) < I 167 x1.toNat)) k) (if ¬(stO I x1 x2 x3 k = true) then (0 : Int) else p_shl 1 (k : Int)) := by
      show (if (stO I x1 x2 x3 k && decide (32 * x3 + (k : Int) < I 167 x1.toNat)) = true then _ else _) = _
      rw [decide_eq_true c, Bool.and_true]
      by_cases h : stO I x1 x2 x3 k = true
      · rw [if_pos h, if_neg (fun q => q h)]
      · rw [if_neg h, if_pos h, p_or_0 (btN_isI _ _)]
    have ih : L_X12_set_39 d 156 x1 x2 x3 (btN (fun k => stO I x1 x2 x3 k && decide (32 * x3 + (k : Int) < I 167 x1.toNat)) (k + 1)) ((k : Int) + 1) I S (stM I x1 x2 x3) (I, S) := ih
    rw [e] at ih
    by_cases h : stO I x1 x2 x3 k = true
    · rw [if_neg (fun q => q h)] at ih
      rw [if_neg (fun q => q (of_decide_eq_true h))]
      exact ih
    · rw [if_pos h] at ih
      rw [if_pos (fun q => h (decide_eq_true q))]
      exact ih
end
end
