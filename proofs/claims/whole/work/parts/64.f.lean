noncomputable section
section
variable {d : Nat} {I : Nat → Nat → Int} {S : PS}
def heP (I : Nat → Nat → Int) (a0 a2 : Nat) (dg : Int) (s : Nat) : Bool := allB (stP I a0 a2 s 1 dg) (I a0 1).toNat || allB (stP I a0 a2 s (dg - 1) dg) (I a0 1).toNat
def heC (I : Nat → Nat → Int) (a0 a2 : Nat) (dg : Int) : Bool := decide (dg = I a0 0) && anyB (heP I a0 a2 dg) dg.toNat
theorem c_X3_isHeldBy {a0 n2 a2 : Nat} {x1 : Int} (hl0 : LyX3 S a0) (hd : 1 ≤ x1 ∧ x1 ≤ n2) (hn : n2 ≤ 9) (hk : 0 ≤ I a0 1 ∧ I a0 1 ≤ 7) : Ca (d + 1) mX3_isHeldBy [vR (some (14, 0, a0)), vI x1, vR (some (0, n2, a2))] (I, S) (.inl (some (vI (if heC I a0 a2 x1 = true then 1 else 0)))) (I, S) := by
  refine w_X3_isHeldBy_0 hl0 (fun hc => ?_) (fun hc => by unfold heC; rw [decide_eq_false hc]; rfl)
  have hM : heC I a0 a2 x1 = anyB (heP I a0 a2 x1) x1.toNat := by unfold heC; rw [decide_eq_true hc, Bool.true_and]
  rw [hM]
  refine up_loopN (P := fun k => anyB (heP I a0 a2 x1) k = false → L_X3_isHeldBy_12 d a0 x1 n2 a2 k I S (if anyB (heP I a0 a2 x1) x1.toNat = true then 1 else 0) (I, S)) (n := x1.toNat) ?_ ?_ rfl
  · intro hf
    exact w_X3_isHeldBy_12 hl0 (fun h => absurd h (by omega)) (fun _ => by rw [hf]; rfl) (r2 := fun h => absurd h (by omega)) (r3 := fun h => absurd h (by omega))
  · intro k hk2 ih hf
    refine w_X3_isHeldBy_12 hl0 (fun _ c1 c2 => ih (anyB_succ hf ?_)) (fun h => absurd h (by omega)) (r2 := fun _ c => (if_pos (anyB_yes hk2 ?_)).symm) (r3 := fun _ _ c => (if_pos (anyB_yes hk2 ?_)).symm)
    · unfold heP; rw [Bool.eq_false_iff.mpr c1, Bool.eq_false_iff.mpr c2]; rfl
    · unfold heP; rw [c]; rfl
    · unfold heP; rw [c, Bool.or_true]
def bgI (I : Nat → Nat → Int) (a1 : Nat) : Nat → Nat → Int := up2 (up2 (up1 (up1 I 128 (upTo (I 128) (fun _ => 0) 0 4)) 129 (upTo (I 129) (fun j => I (a1 + 1) (8 * j)) 0 (I a1 0).toNat)) 126 2 0) 126 6 0
theorem c_X9_begin {a1 : Nat} (hl0 : LyX9 S 126) (hl1 : LyX7 S a1) (hc : 0 ≤ I a1 0 ∧ I a1 0 ≤ 6) (ha : a1 ≠ 128 ∧ a1 ≠ 129 ∧ a1 + 1 ≠ 128 ∧ a1 + 1 ≠ 129) : Ca (d + 2) mX9_begin [vR (some (19, 0, 126)), vR (some (17, 0, a1))] (I, S) (.inl none) (bgI I a1, S) := by
  refine w_X9_begin_0 hl0 hl1 ?_
  refine up_loopN (P := fun k => ∀ J, J = up1 (up1 I 128 (upTo (I 128) (fun _ => 0) 0 4)) 129 (upTo (I 129) (fun j => I (a1 + 1) (8 * j)) 0 k) → L_X9_begin_9 d 126 a1 k J S (bgI I a1, S)) (n := (I a1 0).toNat) ?_ ?_ _ ?_
  · intro J hJ
    have e : J a1 = I a1 := by rw [hJ, up1_o _ ha.2.1, up1_o _ ha.1]
    have e1 := congrFun e 0
    exact w_X9_begin_9 hl0 hl1 (fun h => absurd h (by omega)) (fun _ => by rw [hJ]; rfl)
  · intro k hk ih J hJ
    have e : J a1 = I a1 := by rw [hJ, up1_o _ ha.2.1, up1_o _ ha.1]
    have e1 := congrFun e 0
    have e2 : J (a1 + 1) = I (a1 + 1) := by rw [hJ, up1_o _ ha.2.2.2, up1_o _ ha.2.2.1]
    refine w_X9_begin_9 hl0 hl1 (fun _ => ih _ ?_) (fun h => absurd h (by omega))
    rw [e2, hJ]
    exact upTo_step (by omega) (by congr 1; omega)
  · rw [upTo_zero (I 129)]
    exact (up1_self (up1 I 128 (upTo (I 128) (fun _ => 0) 0 4)) 129).symm
def icP (I : Nat → Nat → Int) (p : Int) (k : Nat) : Bool := decide (¬(I 170 ((96 * p) + (k : Int)).toNat = 1 ∧ I 171 ((96 * p) + (k : Int)).toNat = -1))
def icM (I : Nat → Nat → Int) (p : Int) : Bool := (decide (I 159 ((20 * p) + 10).toNat ≠ 0) && decide (smI (fun k => I 170 ((96 * p) + (k : Int)).toNat) (I 167 p.toNat).toNat ≠ 0)) && allB (icP I p) (I 167 p.toNat).toNat
theorem c_X12_isC {x1 : Int} (hl0 : LyX12 S) (hp : 0 ≤ x1 ∧ x1 < 4) (hm : 0 ≤ I 167 x1.toNat ∧ I 167 x1.toNat ≤ 96) (hg : ∀ k : Nat, (k : Int) < I 167 x1.toNat → 0 ≤ I 170 ((96 * x1) + (k : Int)).toNat ∧ I 170 ((96 * x1) + (k : Int)).toNat ≤ 1) : Ca (d + 1) mX12_isC [vR (some (22, 0, 156)), vI x1] (I, S) (.inl (some (vI (if icM I x1 = true then 1 else 0)))) (I, S) := by
  refine w_X12_isC_0 hl0 (fun c1 c2 => ?_) (fun c => by unfold icM; rw [decide_eq_false (fun q => q c)]; rfl) (r2 := fun c0 c => by unfold icM; rw [decide_eq_true c0, decide_eq_false (fun q => q c)]; rfl) (v6 := fun _ => hg)
  have hM : icM I x1 = allB (icP I x1) (I 167 x1.toNat).toNat := by unfold icM; rw [decide_eq_true c1, decide_eq_true c2]; rfl
  rw [hM]
  refine up_loopN (P := fun k => allB (icP I x1) k = true → L_X12_isC_31 d 156 x1 k I S (if allB (icP I x1) (I 167 x1.toNat).toNat = true then 1 else 0) (I, S)) (n := (I 167 x1.toNat).toNat) ?_ ?_ rfl
  · intro hf
    exact w_X12_isC_31 hl0 (fun h => absurd h (by omega)) (fun h => absurd h (by omega)) (fun _ => (if_pos hf).symm) (r2 := fun h => absurd h (by omega))
  · intro k hk ih hf
    exact w_X12_isC_31 hl0 (fun _ c => ih (allB_succ hf (decide_eq_true (fun q => c q.1)))) (fun _ _ c => ih (allB_succ hf (decide_eq_true (fun q => c q.2)))) (fun h => absurd h (by omega)) (r2 := fun _ c c2 => by rw [allB_no hk (decide_eq_false (fun q => q ⟨c, c2⟩))]; rfl)
def edM (I : Nat → Nat → Int) (p : Int) (k : Nat) : Int := bcn (I 165 ((15 * p) + (k : Int)).toNat) 15
theorem c_X12_edgesOf {x1 : Int} (hl0 : LyX12 S) (hp : 0 ≤ x1 ∧ x1 < 4) (hr : 0 ≤ I 159 ((20 * x1) + 9).toNat ∧ I 159 ((20 * x1) + 9).toNat ≤ 7) (hk : 0 ≤ I 159 ((20 * x1) + 1).toNat ∧ I 159 ((20 * x1) + 1).toNat ≤ 7) : Ca (d + 2) mX12_edgesOf [vR (some (22, 0, 156)), vI x1] (I, S) (.inl (some (vI (smI (edM I x1) (((I 159 ((20 * x1) + 9).toNat) + 1) + (I 159 ((20 * x1) + 1).toNat)).toNat / 2)))) (I, S) := by
  refine w_X12_edgesOf_0 hl0 ?_
  refine up_loopN (P := fun k => L_X12_edgesOf_4 d 156 x1 (smI (edM I x1) k) k I S (smI (edM I x1) (((I 159 ((20 * x1) + 9).toNat) + 1) + (I 159 ((20 * x1) + 1).toNat)).toNat / 2) (I, S)) (n := (((I 159 ((20 * x1) + 9).toNat) + 1) + (I 159 ((20 * x1) + 1).toNat)).toNat) ?_ ?_
  · have h1 := smI_le (g := edM I x1) (m := 15) (n := (((I 159 ((20 * x1) + 9).toNat) + 1) + (I 159 ((20 * x1) + 1).toNat)).toNat) (fun k _ => bcn_le _ 15)
    exact w_X12_edgesOf_4 hl0 (fun h => absurd h (by omega)) (fun _ => rfl)
  · intro k hk2 ih
    have h1 := smI_le (g := edM I x1) (m := 15) (n := k) (fun k _ => bcn_le _ 15)
    have h2 := bcn_le (I 165 ((15 * x1) + (k : Int)).toNat) 15
    exact w_X12_edgesOf_4 hl0 (fun _ => ih) (fun h => absurd h (by omega))
/-- what one neighbour brings, the reference's -/
def chD (I : Nat → Nat → Int) (b dg : Int) (k : Nat) : Int := (snM I b (I 177 (k : Int).toNat) dg (I 177 (((k : Int) + dg - 1) % dg).toNat) (I 177 (((k : Int) + 1) % dg).toNat) ((I 156 14)).toNat) - (snM I b dg (I 177 (k : Int).toNat) (I 177 (((k : Int) + dg - 1) % dg).toNat) (I 177 (((k : Int) + 1) % dg).toNat) ((I 156 14)).toNat)
def chB (I : Nat → Nat → Int) (b dg : Int) : Nat → Int
  | 0 => 10 * (6 - dg)
  | k + 1 => chB I b dg k + chD I b dg k
theorem chD_le {b dg : Int} (hc : 0 ≤ (I 156 14) ∧ (I 156 14) ≤ 6) (ha : ∀ k : Nat, (k : Int) < (I 156 14) → 0 ≤ I 178 (b + 12 + (k : Int)).toNat ∧ I 178 (b + 12 + (k : Int)).toNat ≤ 99) (k : Nat) : -594 ≤ chD I b dg k ∧ chD I b dg k ≤ 594 := by
  unfold chD
  have h := fun y1 y2 y3 y4 => snM_le (I := I) (b := b) (x2 := y1) (x3 := y2) (x4 := y3) (x5 := y4) (n := ((I 156 14)).toNat) (fun j hj => ha j (by omega))
  have h1 := h (I 177 (k : Int).toNat) dg (I 177 (((k : Int) + dg - 1) % dg).toNat) (I 177 (((k : Int) + 1) % dg).toNat)
  have h2 := h dg (I 177 (k : Int).toNat) (I 177 (((k : Int) + dg - 1) % dg).toNat) (I 177 (((k : Int) + 1) % dg).toNat)
  omega
theorem chB_le {b dg : Int} (hc : 0 ≤ (I 156 14) ∧ (I 156 14) ≤ 6) (ha : ∀ k : Nat, (k : Int) < (I 156 14) → 0 ≤ I 178 (b + 12 + (k : Int)).toNat ∧ I 178 (b + 12 + (k : Int)).toNat ≤ 99) (hd : 0 ≤ dg ∧ dg ≤ 9) : ∀ k : Nat, -100 - 594 * k ≤ chB I b dg k ∧ chB I b dg k ≤ 100 + 594 * k
  | 0 => by unfold chB; omega
  | k + 1 => by
    have h1 := chB_le hc ha hd k
    have h2 := chD_le (dg := dg) hc ha k
    unfold chB
    omega
theorem c_X12_chargeBy {x1 x2 : Int} (hl0 : LyX12 S) (hb : x1 = 0 ∨ x1 = 18) (hc : 0 ≤ (I 156 14) ∧ (I 156 14) ≤ 6) (ha : ∀ k : Nat, (k : Int) < (I 156 14) → 0 ≤ I 178 (x1 + 12 + (k : Int)).toNat ∧ I 178 (x1 + 12 + (k : Int)).toNat ≤ 99) (hd : 1 ≤ x2 ∧ x2 ≤ 9) : Ca (d + 3) mX12_chargeBy [vR (some (22, 0, 156)), vI x1, vI x2] (I, S) (.inl (some (vI (chB I x1 x2 x2.toNat)))) (I, S) := by
  refine w_X12_chargeBy_0 hl0 ?_
  refine up_loopN (P := fun k => L_X12_chargeBy_11 d 156 x1 x2 (chB I x1 x2 k) k I S (chB I x1 x2 x2.toNat) (I, S)) (n := x2.toNat) ?_ ?_
  · exact w_X12_chargeBy_11 hl0 (fun h => absurd h (by omega)) (fun _ => rfl) (v11 := fun h => absurd h (by omega))
  · intro k hk ih
    have h1 : 0 ≤ ((k : Int) + x2 - 1) % x2 := Int.emod_nonneg _ (by omega)
    have h2 : ((k : Int) + x2 - 1) % x2 < x2 := Int.emod_lt_of_pos _ (by omega)
    have h3 : 0 ≤ ((k : Int) + 1) % x2 := Int.emod_nonneg _ (by omega)
    have h4 : ((k : Int) + 1) % x2 < x2 := Int.emod_lt_of_pos _ (by omega)
    have h5 := chB_le (I := I) (b := x1) (dg := x2) hc ha (by omega) k
    have h6 := chD_le (I := I) (b := x1) (dg := x2) hc ha k
    unfold chD at h6
    exact w_X12_chargeBy_11 hl0 (fun _ => ih) (fun h => absurd h (by omega)) (v11 := fun _ => ha)
/-- pieces that are held, as bits -/
def hoM (I : Nat → Nat → Int) (dg : Int) : Nat → Int
  | 0 => 0
  | k + 1 => p_or (hoM I dg k) (if ¬(hdM I k dg = true) then (0 : Int) else p_shl 1 (k : Int))
theorem c_X12_holds {x1 : Int} (hl0 : LyX12 S) (hp : 0 ≤ (I 156 13) ∧ (I 156 13) ≤ 4) (hd : 1 ≤ x1 ∧ x1 ≤ 9) (hk : ∀ p : Nat, (p : Int) < (I 156 13) → (0 ≤ I 159 ((20 * (p : Int)) + 1).toNat ∧ I 159 ((20 * (p : Int)) + 1).toNat ≤ 7) ∧ I 159 ((20 * (p : Int)) + 1).toNat ≤ I 159 (20 * (p : Int)).toNat) : Ca (d + 1) mX12_holds [vR (some (22, 0, 156)), vI x1] (I, S) (.inl (some (vI (hoM I x1 ((I 156 13)).toNat)))) (I, S) := by
  refine w_X12_holds_0 hl0 ?_
  refine up_loopN (P := fun k => L_X12_holds_4 d 156 x1 (hoM I x1 k) k I S (hoM I x1 ((I 156 13)).toNat) (I, S)) (n := ((I 156 13)).toNat) ?_ ?_
  · exact w_X12_holds_4 hl0 (fun h => absurd h (by omega)) (fun _ => rfl) (v4 := fun h => absurd h (by omega))
  · intro k hk2 ih
    have h1 := hk k (by omega)
    exact w_X12_holds_4 hl0 (fun _ => ih) (fun h => absurd h (by omega)) (v4 := fun _ h => by rw [← h]; exact h1.2)
def imI (I : Nat → Nat → Int) : Nat → Nat → Int := up1 (up1 (up1 (up2 (up2 (up2 (up2 I 156 0 0) 156 59 1) 156 60 (I 156 41)) 156 61 (I 156 56)) 188 (upTo (I 188) (I 178) 0 18)) 189 (upTo (I 189) (I 179) 0 540)) 190 (upTo (I 190) (I 187) 0 16)
theorem c_X12_image (hl0 : LyX12 S) : Ca (d + 1) mX12_image [vR (some (22, 0, 156))] (I, S) (.inl none) (imI I, S) := by
  refine w_X12_image_0 hl0 ?_
  refine up_loopN (P := fun k => ∀ J, J = up1 (up2 (up2 (up2 (up2 I 156 0 0) 156 59 1) 156 60 (I 156 41)) 156 61 (I 156 56)) 188 (upTo (I 188) (I 178) 0 k) → L_X12_image_28 d 156 k J S (imI I, S)) (n := 18) ?_ ?_ _ ?_
  · intro J hJ
    exact w_X12_image_28 hl0 (fun h => absurd h (by decide)) (fun _ => by rw [hJ]; rfl)
  · intro k hk ih J hJ
    refine w_X12_image_28 hl0 (fun _ => ih _ ?_) (fun h => absurd h (by omega))
    have e : J 178 = I 178 := by rw [hJ]; rfl
    rw [e, hJ]
    exact upTo_step (by omega) (by congr 1; omega)
  · rw [upTo_zero]
    exact (up1_self (up2 (up2 (up2 (up2 I 156 0 0) 156 59 1) 156 60 (I 156 41)) 156 61 (I 156 56)) 188).symm
def reI (I : Nat → Nat → Int) : Nat → Nat → Int := if I 156 59 = 0 then up2 I 156 0 0 else up1 (up1 (up1 (up2 (up2 (up2 I 156 0 0) 156 41 (I 156 60)) 156 56 (I 156 61)) 178 (upTo (I 178) (I 188) 0 18)) 179 (upTo (I 179) (I 189) 0 540)) 187 (upTo (I 187) (I 190) 0 16)
theorem c_X12_restore (hl0 : LyX12 S) : Ca (d + 1) mX12_restore [vR (some (22, 0, 156))] (I, S) (.inl (some (vI (if I 156 59 ≠ 0 then 1 else 0)))) (reI I, S) := by
  refine w_X12_restore_0 hl0 (fun hc => ?_) (fun hc => by rw [if_neg (fun q => q hc)]) (fun hc => by unfold reI; rw [if_pos hc])
  have hr : reI I = up1 (up1 (up1 (up2 (up2 (up2 I 156 0 0) 156 41 (I 156 60)) 156 56 (I 156 61)) 178 (upTo (I 178) (I 188) 0 18)) 179 (upTo (I 179) (I 189) 0 540)) 187 (upTo (I 187) (I 190) 0 16) := if_neg hc
  rw [if_pos hc, hr]
  refine up_loopN (P := fun k => ∀ J, J = up1 (up2 (up2 (up2 I 156 0 0) 156 41 (I 156 60)) 156 56 (I 156 61)) 178 (upTo (I 178) (I 188) 0 k) → L_X12_restore_32 d 156 k J S 1 (up1 (up1 (up1 (up2 (up2 (up2 I 156 0 0) 156 41 (I 156 60)) 156 56 (I 156 61)) 178 (upTo (I 178) (I 188) 0 18)) 179 (upTo (I 179) (I 189) 0 540)) 187 (upTo (I 187) (I 190) 0 16), S)) (n := 18) ?_ ?_ _ ?_
  · intro J hJ
    exact w_X12_restore_32 hl0 (fun h => absurd h (by decide)) (fun _ => rfl) (fun _ => by rw [hJ]; rfl)
  · intro k hk ih J hJ
    refine w_X12_restore_32 hl0 (fun _ => ih _ ?_) (fun h => absurd h (by omega)) (fun h => absurd h (by omega))
    have e : J 188 = I 188 := by rw [hJ]; rfl
    rw [e, hJ]
    exact upTo_step (by omega) (by congr 1; omega)
  · rw [upTo_zero]
    exact (up1_self (up2 (up2 (up2 I 156 0 0) 156 41 (I 156 60)) 156 56 (I 156 61)) 178).symm
def kwP (I : Nat → Nat → Int) (k : Nat) : Bool := decide (p_lcmp (f_X12_letters k) (I 156 12) = 0)
def kwM (I : Nat → Nat → Int) : Int := if (I 156 8) = 1 ∧ (I 156 10) ≤ 5 then fstB (kwP I) 13 else -1
theorem c_X12_knownWord (hl0 : LyX12 S) : Ca (d + 2) mX12_knownWord [vR (some (22, 0, 156))] (I, S) (.inl (some (vI (kwM I)))) (I, S) := by
  unfold kwM
  refine w_X12_knownWord_0 hl0 (fun c1 c2 => ?_) (fun c => by rw [if_neg (fun q => c q.1)]) (r2 := fun _ c => by rw [if_neg (fun q => absurd q.2 (by omega))])
  rw [if_pos ⟨c1, c2⟩]
  refine up_loopN (P := fun k => fstB (kwP I) k = -1 → L_X12_knownWord_20 d 156 k I S (fstB (kwP I) 13) (I, S)) (n := 13) ?_ ?_ rfl
  · intro hf
    exact w_X12_knownWord_20 hl0 (fun h => absurd h (by decide)) (fun _ => hf.symm) (r2 := fun h => absurd h (by decide))
  · intro k hk ih hf
    exact w_X12_knownWord_20 hl0 (fun _ c => ih (fstB_succ hf (decide_eq_false c))) (fun h => absurd h (by omega)) (r2 := fun _ c => (fstB_here hf (decide_eq_true c) hk).symm)
end
end
