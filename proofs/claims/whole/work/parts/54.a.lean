/-! ===== loops: tools, and the first contracts ===== -/
noncomputable section
theorem up_loopN {P : Nat → Prop} {n : Nat} (he : P n) (hs : ∀ k, k < n → P (k + 1) → P k) : P 0 := by
  have key : ∀ (j k : Nat), k + j = n → P k := by
    intro j
    induction j with
    | zero => intro k h; have : k = n := by omega
              subst this; exact he
    | succ j ih => intro k h; exact hs k (by omega) (ih (k + 1) (by omega))
  exact key n 0 (by omega)
/-- places lo, lo+1 .. of an array, k of them, are new -/
def upTo (f g : Nat → Int) (lo k : Nat) : Nat → Int := fun j => if lo ≤ j ∧ j < lo + k then g j else f j
theorem upTo_zero (f g : Nat → Int) (lo : Nat) : upTo f g lo 0 = f := by
  funext j; unfold upTo; rw [if_neg (by omega)]
theorem upTo_out {f g : Nat → Int} {lo k j : Nat} (h : ¬(lo ≤ j ∧ j < lo + k)) : upTo f g lo k j = f j := by unfold upTo; rw [if_neg h]
theorem upTo_in {f g : Nat → Int} {lo k j : Nat} (h : lo ≤ j ∧ j < lo + k) : upTo f g lo k j = g j := by unfold upTo; rw [if_pos h]
theorem upTo_succ {f g : Nat → Int} {lo k i : Nat} {v : Int} (hi : i = lo + k) (hv : v = g (lo + k)) : up1 (upTo f g lo k) i v = upTo f g lo (k + 1) := by
  subst hi; subst hv
  funext j
  unfold up1 upTo
  by_cases h1 : j = lo + k
  · rw [if_pos h1, if_pos (by omega), h1]
  · rw [if_neg h1]
    by_cases h2 : lo ≤ j ∧ j < lo + k
    · rw [if_pos h2, if_pos (by omega)]
    · rw [if_neg h2, if_neg (by omega)]
theorem upTo_step {I : Nat → Nat → Int} {a : Nat} {f g : Nat → Int} {lo k i : Nat} {v : Int} (hi : i = lo + k) (hv : v = g (lo + k)) : up2 (up1 I a (upTo f g lo k)) a i v = up1 I a (upTo f g lo (k + 1)) := by
  rw [up2_up1, up1_up1, up1_same, upTo_succ hi hv]
theorem upTo_start (I : Nat → Nat → Int) (a : Nat) (g : Nat → Int) (lo : Nat) : up1 I a (upTo (I a) g lo 0) = I := by rw [upTo_zero, up1_self]
/-- how many of the first n spots are painted -/
def cntP (I : Nat → Nat → Int) (b : Int) : Nat → Int
  | 0 => 0
  | k + 1 => cntP I b k + (if I 178 (b + (k : Int)).toNat ≠ (-1) then 1 else 0)
theorem cntP_le (I : Nat → Nat → Int) (b : Int) : ∀ n : Nat, 0 ≤ cntP I b n ∧ cntP I b n ≤ n
  | 0 => ⟨Int.le_refl 0, Int.le_refl 0⟩
  | k + 1 => by
    have := cntP_le I b k
    unfold cntP
    split <;> omega
section
variable {d : Nat} {I : Nat → Nat → Int} {S : PS}
theorem c_X12_painted {x1 : Int} (hl0 : LyX12 S) (hb : x1 = 0 ∨ x1 = 18) (hs : 0 ≤ (I 156 15) ∧ (I 156 15) ≤ 12) : Ca d mX12_painted [vR (some (22, 0, 156)), vI x1] (I, S) (.inl (some (vI (cntP I x1 ((I 156 15)).toNat)))) (I, S) := by
  refine w_X12_painted_0 hl0 ?_
  refine up_loopN (P := fun k => L_X12_painted_4 d 156 x1 (cntP I x1 k) k I S (cntP I x1 ((I 156 15)).toNat) (I, S)) (n := ((I 156 15)).toNat) ?_ ?_
  · exact w_X12_painted_4 hl0 (fun h => absurd h (by omega)) (fun _ => rfl)
  · intro k hk ih
    have := cntP_le I x1 k
    exact w_X12_painted_4 hl0 (fun _ => ih) (fun h => absurd h (by omega))
/-- the neighbours' bits -/
def nrO (I : Nat → Nat → Int) (s : Int) : Nat → Int
  | 0 => 0
  | k + 1 => p_or (nrO I s k) (p_shl 1 (I 161 (((10 * s) + 1) + (k : Int)).toNat))
theorem c_X12_nearOnes {x1 : Int} (hl0 : LyX12 S) (hs : 0 ≤ x1 ∧ x1 < 12) (hd : 0 ≤ I 161 (10 * x1).toNat ∧ I 161 (10 * x1).toNat ≤ 9) : Ca (d + 1) mX12_nearOnes [vR (some (22, 0, 156)), vI x1] (I, S) (.inl (some (vI (nrO I x1 (I 161 (10 * x1).toNat).toNat)))) (I, S) := by
  refine w_X12_nearOnes_0 hl0 ?_
  refine up_loopN (P := fun k => L_X12_nearOnes_4 d 156 x1 (nrO I x1 k) k I S (nrO I x1 (I 161 (10 * x1).toNat).toNat) (I, S)) (n := (I 161 (10 * x1).toNat).toNat) ?_ ?_
  · exact w_X12_nearOnes_4 hl0 (fun h => absurd h (by omega)) (fun _ => rfl)
  · intro k hk ih
    exact w_X12_nearOnes_4 hl0 (fun _ => ih) (fun h => absurd h (by omega))
/-- colours that no neighbour has -/
def frF (I : Nat → Nat → Int) (b s : Int) : Nat → Int
  | 0 => 15
  | k + 1 => if I 178 (b + (I 161 (((10 * s) + 1) + (k : Int)).toNat)).toNat = (-1) then (frF I b s k : Int) else p_and (frF I b s k) (p_xor (p_shl 1 (I 178 (b + (I 161 (((10 * s) + 1) + (k : Int)).toNat)).toNat)) (-1))
theorem c_X12_freeFor {x1 x2 : Int} (hl0 : LyX12 S) (hb : x1 = 0 ∨ x1 = 18) (hs : 0 ≤ x2 ∧ x2 < 12) (hd : 0 ≤ I 161 (10 * x2).toNat ∧ I 161 (10 * x2).toNat ≤ 9) (hn : ∀ k : Nat, (k : Int) < I 161 (10 * x2).toNat → 0 ≤ I 161 (((10 * x2) + 1) + (k : Int)).toNat ∧ I 161 (((10 * x2) + 1) + (k : Int)).toNat < 12) : Ca (d + 1) mX12_freeFor [vR (some (22, 0, 156)), vI x1, vI x2] (I, S) (.inl (some (vI (frF I x1 x2 (I 161 (10 * x2).toNat).toNat)))) (I, S) := by
  refine w_X12_freeFor_0 hl0 ?_
  refine up_loopN (P := fun k => L_X12_freeFor_6 d 156 x1 x2 (frF I x1 x2 k) k I S (frF I x1 x2 (I 161 (10 * x2).toNat).toNat) (I, S)) (n := (I 161 (10 * x2).toNat).toNat) ?_ ?_
  · exact w_X12_freeFor_6 hl0 (fun h => absurd h (by omega)) (fun _ => rfl)
  · intro k hk ih
    have := hn k (by omega)
    exact w_X12_freeFor_6 hl0 (fun _ => ih) (fun h => absurd h (by omega))
/-- the row behind the row, laid anew -/
def trI (I : Nat → Nat → Int) : Nat → Nat → Int := up1 I 178 (upTo (I 178) (fun j => I 178 (j - 18)) 18 18)
theorem c_X12_tries (hl0 : LyX12 S) : Ca d mX12_tries [vR (some (22, 0, 156))] (I, S) (.inl none) (trI I, S) := by
  refine w_X12_tries_0 hl0 ?_
  have h := up_loopN (P := fun k => L_X12_tries_2 d 156 k (up1 I 178 (upTo (I 178) (fun j => I 178 (j - 18)) 18 k)) S (trI I, S)) (n := 18) ?_ ?_
  · rw [upTo_start] at h; exact h
  · exact w_X12_tries_2 hl0 (fun h => absurd h (by decide))
  · intro k hk ih
    refine w_X12_tries_2 hl0 (fun _ => ?_) (e1 := fun h => absurd h (by omega))
    rw [up1_same, upTo_out (by omega), upTo_step (by omega) (by congr 1; omega)]
    exact ih
theorem c_X12_copies {n1 a1 n2 a2 : Nat} (hl0 : LyX12 S) (hn : n1 ≤ n2) (h1 : n1 ≤ 100000) (ha : a1 ≠ a2) : Ca d mX12_copies [vR (some (22, 0, 156)), vR (some (0, n1, a1)), vR (some (0, n2, a2))] (I, S) (.inl none) (up1 I a2 (upTo (I a2) (I a1) 0 n1), S) := by
  refine w_X12_copies_0 hl0 ?_
  have h := up_loopN (P := fun k => L_X12_copies_2 d 156 n1 a1 n2 a2 k (up1 I a2 (upTo (I a2) (I a1) 0 k)) S (up1 I a2 (upTo (I a2) (I a1) 0 n1), S)) (n := n1) ?_ ?_
  · rw [upTo_start] at h; exact h
  · exact w_X12_copies_2 hl0 (fun h => absurd h (by omega))
  · intro k hk ih
    refine w_X12_copies_2 hl0 (fun _ => ?_) (e1 := fun h => absurd h (by omega))
    rw [up1_o _ ha, upTo_step (by omega) (by congr 1; omega)]
    exact ih
theorem c_J7_fill_53178 {n0 a0 : Nat} {x1 : Int} (h1 : n0 ≤ 100000) : Ca d mJ7_fill_53178 [vR (some (0, n0, a0)), vI x1] (I, S) (.inl none) (up1 I a0 (upTo (I a0) (fun _ => x1) 0 n0), S) := by
  refine w_J7_fill_53178_0 ?_
  have h := up_loopN (P := fun k => L_J7_fill_53178_5 d n0 a0 x1 k n0 (up1 I a0 (upTo (I a0) (fun _ => x1) 0 k)) S (up1 I a0 (upTo (I a0) (fun _ => x1) 0 n0), S)) (n := n0) ?_ ?_
  · rw [upTo_start] at h; exact h
  · exact w_J7_fill_53178_5 (fun h => absurd h (by omega))
  · intro k hk ih
    refine w_J7_fill_53178_5 (fun _ => ?_) (e1 := fun h => absurd h (by omega))
    rw [upTo_step (by omega) rfl]
    exact ih
/-- the colour of a spot by the sets of spots of each colour -/
def colO (f : Nat → Int) (s : Int) : Int := if p_and (p_shr (f 0) s) 1 ≠ 0 then 0 else if p_and (p_shr (f 1) s) 1 ≠ 0 then 1 else if p_and (p_shr (f 2) s) 1 ≠ 0 then 2 else if p_and (p_shr (f 3) s) 1 ≠ 0 then 3 else -1
theorem c_X2_colourAt {a0 : Nat} {x1 : Int} (hl0 : LyX2 S a0) : Ca d mX2_colourAt [vR (some (13, 0, a0)), vI x1] (I, S) (.inl (some (vI (colO (I (a0 + 1)) x1)))) (I, S) := by
  refine w_X2_colourAt_0 hl0 ?_
  unfold colO
  refine w_X2_colourAt_2 hl0 (fun _ c0 => ?_) (fun h => absurd h (by decide)) (r2 := fun _ c => (if_pos c).symm)
  rw [if_neg (fun q => q c0)]
  refine w_X2_colourAt_2 hl0 (fun _ c0 => ?_) (fun h => absurd h (by decide)) (r2 := fun _ c => (if_pos c).symm)
  rw [if_neg (fun q => q c0)]
  refine w_X2_colourAt_2 hl0 (fun _ c0 => ?_) (fun h => absurd h (by decide)) (r2 := fun _ c => (if_pos c).symm)
  rw [if_neg (fun q => q c0)]
  refine w_X2_colourAt_2 hl0 (fun _ c0 => ?_) (fun h => absurd h (by decide)) (r2 := fun _ c => (if_pos c).symm)
  rw [if_neg (fun q => q c0)]
  exact w_X2_colourAt_2 hl0 (fun h => absurd h (by decide)) (fun _ => rfl) (r2 := fun h => absurd h (by decide))
/-- colours that no neighbour has, by the sets -/
def frC (f : Nat → Int) (m : Int) : Nat → Int
  | 0 => 0
  | k + 1 => if p_and (f k) m ≠ 0 then (frC f m k : Int) else p_or (frC f m k) (p_shl 1 (k : Int))
theorem c_X2_freeColours {a0 a1 : Nat} {x2 : Int} (hl0 : LyX2 S a0) (hl1 : LyX0 S a1) (hs : 0 ≤ x2 ∧ x2 < 12) : Ca d mX2_freeColours [vR (some (13, 0, a0)), vR (some (11, 0, a1)), vI x2] (I, S) (.inl (some (vI (frC (I (a0 + 1)) (I (a1 + 5) x2.toNat) 4)))) (I, S) := by
  refine w_X2_freeColours_0 hl0 hl1 ?_
  refine up_loopN (P := fun k => L_X2_freeColours_5 d a0 a1 x2 (frC (I (a0 + 1)) (I (a1 + 5) x2.toNat) k) k I S (frC (I (a0 + 1)) (I (a1 + 5) x2.toNat) 4) (I, S)) (n := 4) ?_ ?_
  · exact w_X2_freeColours_5 hl0 hl1 (fun h => absurd h (by decide)) (fun _ => rfl)
  · intro k hk ih
    exact w_X2_freeColours_5 hl0 hl1 (fun _ => ih) (fun h => absurd h (by omega))
/-- how many colours are used -/
def unl (f : Nat → Int) : Nat → Int
  | 0 => 0
  | k + 1 => if f k = 0 then (unl f k : Int) else unl f k + 1
theorem unl_le (f : Nat → Int) : ∀ n : Nat, 0 ≤ unl f n ∧ unl f n ≤ n
  | 0 => ⟨Int.le_refl 0, Int.le_refl 0⟩
  | k + 1 => by
    have := unl_le f k
    unfold unl
    split <;> omega
theorem c_X2_unlikeColours {a0 : Nat} (hl0 : LyX2 S a0) : Ca d mX2_unlikeColours [vR (some (13, 0, a0))] (I, S) (.inl (some (vI (unl (I (a0 + 1)) 4)))) (I, S) := by
  refine w_X2_unlikeColours_0 hl0 ?_
  refine up_loopN (P := fun k => L_X2_unlikeColours_4 d a0 (unl (I (a0 + 1)) k) k I S (unl (I (a0 + 1)) 4) (I, S)) (n := 4) ?_ ?_
  · exact w_X2_unlikeColours_4 hl0 (fun h => absurd h (by decide)) (fun _ => rfl)
  · intro k hk ih
    have := unl_le (I (a0 + 1)) k
    exact w_X2_unlikeColours_4 hl0 (fun _ => ih) (fun h => absurd h (by omega))
/-- how many of the first n bits are set -/
def bcn (x : Int) : Nat → Int
  | 0 => 0
  | k + 1 => bcn x k + (if bt x k then 1 else 0)
theorem bcn_le (x : Int) : ∀ n : Nat, 0 ≤ bcn x n ∧ bcn x n ≤ n
  | 0 => ⟨Int.le_refl 0, Int.le_refl 0⟩
  | k + 1 => by
    have := bcn_le x k
    unfold bcn
    split <;> omega
theorem c_X12_bits {x0 : Int} : Ca d mX12_bits [vI x0] (I, S) (.inl (some (vI (bcn x0 15)))) (I, S) := by
  refine w_X12_bits_0 ?_
  refine up_loopN (P := fun k => L_X12_bits_4 d x0 (bcn x0 k) k I S (bcn x0 15) (I, S)) (n := 15) ?_ ?_
  · exact w_X12_bits_4 (fun h => absurd h (by decide)) (fun _ => rfl)
  · intro k hk ih
    have := bcn_le x0 k
    have e := p_tst (x := x0) (s := (k : Int)) (by omega)
    refine w_X12_bits_4 (fun _ => ?_) (fun h => absurd h (by omega)) (v1 := fun _ => ?_)
    · rw [e]; exact ih
    · rw [e]; split <;> omega
end
end
