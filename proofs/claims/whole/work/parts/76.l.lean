noncomputable section
section
variable {d : Nat} {I : Nat → Nat → Int} {S : PS}
theorem caM_le {what : Int} (hm : mSp I) (hr : mRl I 0) : ∀ {n : Nat}, (n : Int) ≤ (I 156 15) → -10000 * (n : Int) ≤ caM I what n ∧ caM I what n ≤ 10000 * n
  | 0, _ => by unfold caM; omega
  | n + 1, h => by
    have h1 := caM_le (what := what) hm hr (n := n) (by omega)
    have h2 := mcs_le hm hr (s := n) (by omega)
    have h3 := (hm.2 n (by omega) (by omega)).1
    unfold caM
    split
    · omega
    · split
      · omega
      · split <;> omega
theorem mSp_ln {s : Int} (h : mSp I) : mSp (lnI I s) := h
theorem mRl_ln {b s : Int} (h : mRl I b) : mRl (lnI I s) b := h
def caF (I : Nat → Nat → Int) (what : Int) : Nat → Nat → Int := if what = 0 then I else up1 I 177 (scM I ((I 156 15)).toNat)
theorem c_X12_chargeAll {x1 : Int} (hl0 : LyX12 S) (hm : mSp I) (hr : mRl I 0) : Ca (d + 5) mX12_chargeAll [vR (some (22, 0, 156)), vI x1] (I, S) (.inl (some (vI (caM I x1 ((I 156 15)).toNat)))) (caF I x1, S) := by
  refine w_X12_chargeAll_0 hl0 ?_
  have hm1 := hm.1
  refine up_loopN (P := fun k => ∀ J, J = (if x1 = 0 then I else up1 I 177 (scM I k)) → L_X12_chargeAll_4 d 156 x1 (caM I x1 k) k J S (caM I x1 ((I 156 15)).toNat) (caF I x1, S)) (n := ((I 156 15)).toNat) ?_ ?_ I ?_
  · intro J hJ
    have e : J 156 15 = (I 156 15) := by rw [hJ]; split <;> rfl
    refine w_X12_chargeAll_4 hl0 (fun h => absurd h (by omega)) (fun h => absurd h (by omega)) (fun h => absurd h (by omega)) (fun _ => rfl) (fun _ => by rw [hJ]; rfl) (v1 := fun h => absurd h (by omega)) (v2 := fun h => absurd h (by omega)) (v6 := fun h => absurd h (by omega)) (v7 := fun h => absurd h (by omega))
  · intro k hk ih J hJ
    have hb := caM_le (what := x1) hm hr (n := k) (by omega)
    have hd := (hm.2 k (by omega) (by omega)).1
    have hc := mcs_le hm hr (s := k) (by omega)
    have hstep : caM I x1 (k + 1) = caM I x1 k + (if x1 = 0 then 10 * (6 - (I 161 (10 * (k : Int)).toNat)) else if x1 = 1 then mcs I 0 k else if 0 < mcs I 0 k then 1 else 0) := rfl
    by_cases h0 : x1 = 0
    · rw [if_pos h0] at hJ
      subst hJ
      rw [hstep, if_pos h0, if_pos h0] at ih
      exact w_X12_chargeAll_4 hl0 (fun _ h => absurd h0 h) (fun _ h => absurd h0 h) (fun _ _ => ih J rfl) (fun h => absurd h (by omega)) (fun h => absurd h (by omega)) (v1 := fun _ h => absurd h0 h) (v2 := fun _ h => absurd h0 h) (v6 := fun _ h => absurd h0 h) (v7 := fun _ h => absurd h0 h)
    · rw [if_neg h0] at hJ
      have e : J 156 15 = (I 156 15) := by rw [hJ]; rfl
      have em : mcs J 0 k = mcs I 0 k := by rw [hJ]; exact mcs_up I _ 0 k
      have e2 : lnI J k = up1 I 177 (scM I (k + 1)) := by rw [hJ]; exact lnI_sc I _ k
      have hmJ : mSp J := by rw [hJ]; exact hm
      have hrJ : mRl J 0 := by rw [hJ]; exact hr
      rw [hstep, if_neg h0, if_neg h0] at ih
      refine w_X12_chargeAll_4 hl0 (fun _ _ h1 => ?_) (fun _ _ h1 => ?_) (fun _ h => absurd h h0) (fun h => absurd h (by omega)) (fun h => absurd h (by omega)) (v4 := fun _ _ _ => by rw [em]; split <;> omega) (v9 := fun _ _ _ => by rw [em]; omega)
      · rw [if_neg h1] at ih
        rw [em, e2]
        exact ih _ rfl
      · rw [if_pos h1] at ih
        rw [em, e2]
        exact ih _ rfl
  · split
    · rfl
    · exact (up1_self I 177).symm
def inP (I : Nat → Nat → Int) (i : Nat) : Bool := decide (mcs I 18 (I 187 (2 * (i : Int)).toNat) = I 187 ((2 * (i : Int)) + 1).toNat)
/-- the row of degrees as it is left behind the first n notes -/
def scN (I : Nat → Nat → Int) : Nat → Nat → Int
  | 0 => I 177
  | k + 1 => upTo (scN I k) (nbD I (I 187 (2 * (k : Int)).toNat)) 0 (I 161 (10 * (I 187 (2 * (k : Int)).toNat)).toNat).toNat
def inN (I : Nat → Nat → Int) : Nat := if fstB (fun k => !(inP I k)) ((I 156 56)).toNat = -1 then ((I 156 56)).toNat else (fstB (fun k => !(inP I k)) ((I 156 56)).toNat).toNat + 1
def inF (I : Nat → Nat → Int) : Nat → Nat → Int := up1 I 177 (scN I (inN I))
theorem c_X12_isNoted (hl0 : LyX12 S) (hm : mSp I) (hr : mRl I 18) (hn : 0 ≤ (I 156 56) ∧ (I 156 56) ≤ 8) (hv : ∀ k : Nat, (k : Int) < (I 156 56) → 0 ≤ I 187 (2 * (k : Int)).toNat ∧ I 187 (2 * (k : Int)).toNat < (I 156 15)) : Ca (d + 5) mX12_isNoted [vR (some (22, 0, 156))] (I, S) (.inl (some (vI (if allB (inP I) ((I 156 56)).toNat = true then 1 else 0)))) (inF I, S) := by
  refine w_X12_isNoted_0 hl0 ?_
  refine up_loopN (P := fun k => fstB (fun k => !(inP I k)) k = -1 → allB (inP I) k = true → ∀ J, J = up1 I 177 (scN I k) → L_X12_isNoted_2 d 156 k J S (if allB (inP I) ((I 156 56)).toNat = true then 1 else 0) (inF I, S)) (n := ((I 156 56)).toNat) ?_ ?_ rfl rfl I (up1_self I 177).symm
  · intro hf ha J hJ
    have e : J 156 56 = (I 156 56) := by rw [hJ]; rfl
    refine w_X12_isNoted_2 hl0 (fun h => absurd h (by omega)) (fun _ => (if_pos ha).symm) (fun _ => ?_) (fun h => absurd h (by omega)) (fun h => absurd h (by omega)) (v3 := fun h => absurd h (by omega)) (v4 := fun h => absurd h (by omega))
    rw [hJ]; unfold inF inN; rw [if_pos hf]
  · intro k hk ih hf ha J hJ
    have e : J 156 56 = (I 156 56) := by rw [hJ]; rfl
    have hv := hv k (by omega)
    have e1 : J 187 = I 187 := by rw [hJ]; rfl
    have e3 : J 156 15 = (I 156 15) := by rw [hJ]; rfl
    have em : ∀ s, mcs J 18 s = mcs I 18 s := by intro s; rw [hJ]; exact mcs_up I _ 18 s
    have e2 : ∀ s, lnI J s = up1 I 177 (upTo (scN I k) (nbD I s) 0 (I 161 (10 * s).toNat).toNat) := by intro s; rw [hJ]; exact lnI_sc I _ s
    have hmJ : mSp J := by rw [hJ]; exact hm
    have hrJ : mRl J 18 := by rw [hJ]; exact hr
    refine w_X12_isNoted_2 hl0 (fun _ c => ?_) (fun h => absurd h (by omega)) (fun h => absurd h (by omega)) (fun _ c => ?_) (fun _ c => ?_) (v5 := fun _ => by rw [e1, e3]; exact hv)
    · rw [em, e1] at c
      have hp : inP I k = true := decide_eq_true c
      rw [e1, e2]
      exact ih (fstB_succ hf (by rw [hp]; rfl)) (allB_succ ha hp) _ rfl
    · rw [em, e1] at c
      rw [allB_no hk (decide_eq_false c)]; rfl
    · rw [em, e1] at c
      have hp : inP I k = false := decide_eq_false c
      rw [e1, e2]
      unfold inF inN
      have ef : fstB (fun k => !(inP I k)) ((I 156 56)).toNat = k := fstB_here hf (by rw [hp]; rfl) hk
      rw [ef, if_neg (show ¬((k : Int) = -1) by omega), Int.toNat_natCast]
      rfl
end
end
