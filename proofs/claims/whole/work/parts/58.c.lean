noncomputable section
theorem abs_mul_le {x y m n : Int} (hx : -m ≤ x ∧ x ≤ m) (hy : -n ≤ y ∧ y ≤ n) : -(m * n) ≤ x * y ∧ x * y ≤ m * n := by
  have h : x.natAbs * y.natAbs ≤ m.natAbs * n.natAbs := Nat.mul_le_mul (by omega) (by omega)
  have e1 : (x * y).natAbs = x.natAbs * y.natAbs := Int.natAbs_mul x y
  have e2 : (m * n).natAbs = m.natAbs * n.natAbs := Int.natAbs_mul m n
  have e3 : 0 ≤ m * n := Int.mul_nonneg (by omega) (by omega)
  omega
section
variable {d : Nat} {I : Nat → Nat → Int} {S : PS}
/-- a bit of a sheet's place -/
def lsI (I : Nat → Nat → Int) : Nat → Nat → Int := up2 (up2 (up2 (up2 (if 0 < I 156 50 then up1 I 184 (upTo (I 184) (fun j => I 178 (18 + (j - (12 * (I 156 50 - 1)).toNat))) (12 * (I 156 50 - 1)).toNat 12) else I) 185 (I 156 50).toNat (I 156 48)) 156 48 (I 156 48 + 1)) 156 50 (I 156 50 + 1)) 186 2 (if (I 156 50 + 1) ≤ I 186 2 then (I 186 2 : Int) else (I 156 50 + 1))
theorem c_X12_laysSheet (hl0 : LyX12 S) (hl : 0 ≤ I 156 50 ∧ I 156 50 < 8) (he : 0 ≤ I 156 48 ∧ I 156 48 ≤ 1000000) : Ca d mX12_laysSheet [vR (some (22, 0, 156))] (I, S) (.inl none) (lsI I, S) := by
  unfold lsI
  refine w_X12_laysSheet_0 hl0 (fun hc => ?_) (fun hc => by rw [if_neg (Int.not_lt.mpr hc)])
  rw [if_pos hc]
  refine up_loopN (P := fun k => ∀ J, J = up1 I 184 (upTo (I 184) (fun j => I 178 (18 + (j - (12 * (I 156 50 - 1)).toNat))) (12 * (I 156 50 - 1)).toNat k) → L_X12_laysSheet_9 d 156 k J S (up2 (up2 (up2 (up2 (up1 I 184 (upTo (I 184) (fun j => I 178 (18 + (j - (12 * (I 156 50 - 1)).toNat))) (12 * (I 156 50 - 1)).toNat 12)) 185 (I 156 50).toNat (I 156 48)) 156 48 (I 156 48 + 1)) 156 50 (I 156 50 + 1)) 186 2 (if (I 156 50 + 1) ≤ I 186 2 then (I 186 2 : Int) else (I 156 50 + 1)), S)) (n := 12) ?_ ?_ I (upTo_start _ _ _ _).symm
  · intro J hJ
    have e1 : J 156 50 = I 156 50 := by rw [hJ]; rfl
    have e2 : J 156 48 = I 156 48 := by rw [hJ]; rfl
    exact w_X12_laysSheet_9 hl0 (fun h => absurd h (by decide)) (fun _ => by rw [hJ]; rfl)
  · intro k hk ih J hJ
    have e1 : J 156 50 = I 156 50 := by rw [hJ]; rfl
    have e2 : J 178 = I 178 := by rw [hJ]; rfl
    refine w_X12_laysSheet_9 hl0 (fun _ => ih _ ?_) (fun h => absurd h (by omega))
    rw [e1, e2, hJ]
    exact upTo_step (by omega) (by congr 1; omega)
def toI (I : Nat → Nat → Int) : Nat → Nat → Int := if 0 < I 156 50 - 1 then up1 (up2 (up2 I 156 50 (I 156 50 - 1)) 156 49 (I 185 (I 156 50 - 1).toNat)) 178 (upTo (I 178) (fun j => I 184 ((12 * (I 156 50 - 2)).toNat + (j - 18))) 18 12) else up2 (up2 I 156 50 (I 156 50 - 1)) 156 49 (I 185 (I 156 50 - 1).toNat)
theorem c_X12_takesOff (hl0 : LyX12 S) (hl : 1 ≤ I 156 50 ∧ I 156 50 ≤ 8) : Ca d mX12_takesOff [vR (some (22, 0, 156))] (I, S) (.inl none) (toI I, S) := by
  unfold toI
  refine w_X12_takesOff_0 hl0 (fun hc => ?_) (fun hc => by rw [if_neg (Int.not_lt.mpr hc)])
  rw [if_pos hc]
  refine up_loopN (P := fun k => ∀ J, J = up1 (up2 (up2 I 156 50 (I 156 50 - 1)) 156 49 (I 185 (I 156 50 - 1).toNat)) 178 (upTo (I 178) (fun j => I 184 ((12 * (I 156 50 - 2)).toNat + (j - 18))) 18 k) → L_X12_takesOff_32 d 156 k J S (up1 (up2 (up2 I 156 50 (I 156 50 - 1)) 156 49 (I 185 (I 156 50 - 1).toNat)) 178 (upTo (I 178) (fun j => I 184 ((12 * (I 156 50 - 2)).toNat + (j - 18))) 18 12), S)) (n := 12) ?_ ?_ _ (by rw [upTo_zero]; exact (up1_self _ 178).symm)
  · intro J hJ
    exact w_X12_takesOff_32 hl0 (fun h => absurd h (by decide)) (fun _ => by rw [hJ])
  · intro k hk ih J hJ
    have e1 : J 156 50 = I 156 50 - 1 := by rw [hJ]; rfl
    have e2 : J 184 = I 184 := by rw [hJ]; rfl
    refine w_X12_takesOff_32 hl0 (fun _ => ih _ ?_) (fun h => absurd h (by omega))
    rw [e1, e2, hJ]
    exact upTo_step (by omega) (by congr 1; omega)
/-- who follows a neighbour -/
def bhd (f : Nat → Int) (n x s : Int) : Int := if fstB (fun k => decide (f (s * 9 + (k : Int)).toNat = x)) n.toNat = -1 then -1 else f (s * 9 + (if n ≤ fstB (fun k => decide (f (s * 9 + (k : Int)).toNat = x)) n.toNat + 1 then (0 : Int) else fstB (fun k => decide (f (s * 9 + (k : Int)).toNat = x)) n.toNat + 1)).toNat
theorem c_X0_behindOf {a0 : Nat} {x1 x2 : Int} (hl0 : LyX0 S a0) (hs : 0 ≤ x1 ∧ x1 < 12) (hd : 0 ≤ I (a0 + 4) x1.toNat ∧ I (a0 + 4) x1.toNat ≤ 9) : Ca (d + 1) mX0_behindOf [vR (some (11, 0, a0)), vI x1, vI x2] (I, S) (.inl (some (vI (bhd (I (a0 + 6)) (I (a0 + 4) x1.toNat) x2 x1)))) (I, S) := by
  refine w_X0_behindOf_0 hl0 ?_
  unfold bhd
  refine up_loopN (P := fun k => fstB (fun k => decide (I (a0 + 6) (x1 * 9 + (k : Int)).toNat = x2)) k = -1 → L_X0_behindOf_10 d a0 x1 x2 (I (a0 + 4) x1.toNat) k I S _ (I, S)) (n := (I (a0 + 4) x1.toNat).toNat) ?_ ?_ rfl
  · intro hf
    exact w_X0_behindOf_10 hl0 (fun h => absurd h (by omega)) (fun _ => (if_pos hf).symm) (r2 := fun h => absurd h (by omega))
  · intro k hk ih hf
    refine w_X0_behindOf_10 hl0 (fun _ c => ih (fstB_succ hf (decide_eq_false c))) (fun h => absurd h (by omega)) (r2 := fun _ c => ?_)
    have e := fstB_here hf (decide_eq_true c) hk
    rw [e, if_neg (show ¬((k : Int) = -1) by omega)]
def roI (I : Nat → Nat → Int) (a0 a2 : Nat) (s : Int) : Nat → Nat → Int := up1 I a2 (upTo (I a2) (fun j => I (a0 + 4) (I (a0 + 6) (s * 9 + (j : Int)).toNat).toNat) 0 (I (a0 + 4) s.toNat).toNat)
theorem c_X0_rowOf {a0 n2 a2 : Nat} {x1 : Int} (hl0 : LyX0 S a0) (hs : 0 ≤ x1 ∧ x1 < 12) (hn : n2 = 9) (hd : 0 ≤ I (a0 + 4) x1.toNat ∧ I (a0 + 4) x1.toNat ≤ 9) (hb : ∀ k : Nat, (k : Int) < I (a0 + 4) x1.toNat → 0 ≤ I (a0 + 6) (x1 * 9 + (k : Int)).toNat ∧ I (a0 + 6) (x1 * 9 + (k : Int)).toNat < 12) (h4 : a0 + 4 ≠ a2) (h6 : a0 + 6 ≠ a2) : Ca (d + 1) mX0_rowOf [vR (some (11, 0, a0)), vI x1, vR (some (0, n2, a2))] (I, S) (.inl none) (roI I a0 a2 x1, S) := by
  refine w_X0_rowOf_0 hl0 ?_
  refine up_loopN (P := fun k => ∀ J, J = up1 I a2 (upTo (I a2) (fun j => I (a0 + 4) (I (a0 + 6) (x1 * 9 + (j : Int)).toNat).toNat) 0 k) → L_X0_rowOf_2 d a0 x1 n2 a2 k J S (roI I a0 a2 x1, S)) (n := (I (a0 + 4) x1.toNat).toNat) ?_ ?_ I (upTo_start _ _ _ _).symm
  · intro J hJ
    have e : J (a0 + 4) = I (a0 + 4) := by rw [hJ]; exact up1_o _ h4
    have e1 := congrFun e x1.toNat
    exact w_X0_rowOf_2 hl0 (fun h => absurd h (by omega)) (fun _ => by rw [hJ]; rfl) (fun h => absurd h (by omega))
  · intro k hk ih J hJ
    have e : J (a0 + 4) = I (a0 + 4) := by rw [hJ]; exact up1_o _ h4
    have e6 : J (a0 + 6) = I (a0 + 6) := by rw [hJ]; exact up1_o _ h6
    have e1 := congrFun e x1.toNat
    have hb1 := hb k (by omega)
    rw [← e6] at hb1
    refine w_X0_rowOf_2 hl0 (fun _ _ => ih _ ?_) (fun h => absurd h (by omega)) (fun _ h => absurd h (by omega))
    rw [e, e6, hJ]
    exact upTo_step (by omega) (by rw [Nat.zero_add])
theorem c_X7_begin {a0 : Nat} {x1 : Int} (hl0 : LyX7 S a0) (hc : 0 ≤ I a0 0 ∧ I a0 0 < 6) : Ca (d + 1) mX7_begin [vR (some (17, 0, a0)), vI x1] (I, S) (.inl none) (up1 I (a0 + 1) (upTo (I (a0 + 1)) (fun j => if j = (I a0 0 * 8).toNat then x1 else 0) (I a0 0 * 8).toNat 8), S) := by
  refine w_X7_begin_0 hl0 ?_
  have h := up_loopN (P := fun k => ∀ J, J = up1 I (a0 + 1) (upTo (I (a0 + 1)) (fun _ => 0) ((I a0 0 * 8).toNat + 1) k) → L_X7_begin_2 d a0 x1 ((k : Int) + 1) J S (up1 I (a0 + 1) (upTo (I (a0 + 1)) (fun j => if j = (I a0 0 * 8).toNat then x1 else 0) (I a0 0 * 8).toNat 8), S)) (n := 7) ?_ ?_ I (upTo_start _ _ _ _).symm
  · exact h
  · intro J hJ
    have e : J a0 0 = I a0 0 := by rw [hJ, up1_o _ (by omega)]
    refine w_X7_begin_2 hl0 (fun h => absurd h (by decide)) (fun _ => ?_)
    rw [e, hJ, up2_up1, up1_up1, up1_same]
    congr 2
    funext j
    unfold up1 upTo
    by_cases hj : j = (I a0 0 * 8).toNat
    · rw [if_pos (by omega), if_pos (by omega)]; show x1 = if j = (I a0 0 * 8).toNat then x1 else 0; rw [if_pos hj]
    · rw [if_neg (by omega)]
      by_cases h2 : (I a0 0 * 8).toNat + 1 ≤ j ∧ j < (I a0 0 * 8).toNat + 1 + 7
      · rw [if_pos h2, if_pos (by omega)]; show 0 = if j = (I a0 0 * 8).toNat then x1 else 0; rw [if_neg hj]
      · rw [if_neg h2, if_neg (by omega)]
  · intro k hk ih J hJ
    have e : J a0 0 = I a0 0 := by rw [hJ, up1_o _ (by omega)]
    refine w_X7_begin_2 hl0 (fun _ => ih _ ?_) (fun h => absurd h (by omega))
    rw [e, hJ]
    exact upTo_step (by omega) rfl
theorem c_X11_mendsLacks {x1 : Int} {T U : Nat} (hl0 : LyX11 S T U) (hn : 0 ≤ I 126 6 ∧ I 126 6 ≤ 8) (hb : ∀ k : Nat, (k : Int) < I 126 6 → -100 ≤ I 154 k ∧ I 154 k ≤ 100) (hx : -100 ≤ x1 ∧ x1 ≤ 100) : Ca d mX11_mendsLacks [vR (some (21, 0, 31)), vI x1] (I, S) (.inl (some (vI (if allB (fun k => decide (x1 * I 154 k = I 153 k)) (I 126 6).toNat = true then 1 else 0)))) (I, S) := by
  refine w_X11_mendsLacks_0 hl0 ?_
  refine up_loopN (P := fun k => allB (fun k => decide (x1 * I 154 k = I 153 k)) k = true → L_X11_mendsLacks_2 d 31 x1 k I S (if allB (fun k => decide (x1 * I 154 k = I 153 k)) (I 126 6).toNat = true then 1 else 0) (I, S)) (n := (I 126 6).toNat) ?_ ?_ rfl
  · intro hf
    exact w_X11_mendsLacks_2 hl0 (fun h => absurd h (by omega)) (fun _ => (if_pos hf).symm) (r2 := fun h => absurd h (by omega))
  · intro k hk ih hf
    have hb := hb k (by omega)
    refine w_X11_mendsLacks_2 hl0 (fun _ c => ih (allB_succ hf (decide_eq_true c))) (fun h => absurd h (by omega)) (r2 := fun _ c => ?_) (v2 := fun _ => ?_)
    · rw [allB_no hk (decide_eq_false c)]; rfl
    · have h1 : -(100 * 100) ≤ x1 * I 154 (k : Int).toNat ∧ x1 * I 154 (k : Int).toNat ≤ 100 * 100 := abs_mul_le hx hb
      omega
end
end
