noncomputable section
section
variable {d : Nat} {I : Nat → Nat → Int} {S : PS}
def npP (f : Nat → Int) (u v : Int) (k : Nat) : Bool := decide (f (((10 * u) + 1) + (k : Int)).toNat = v)
theorem c_X12_nearPlace {n0 a0 : Nat} {x1 x2 : Int} (hn : n0 = 120) (hs : 0 ≤ x1 ∧ x1 < 12) (hd : 0 ≤ I a0 (10 * x1).toNat ∧ I a0 (10 * x1).toNat ≤ 9) : Ca d mX12_nearPlace [vR (some (0, n0, a0)), vI x1, vI x2] (I, S) (.inl (some (vI (fstB (npP (I a0) x1 x2) (I a0 (10 * x1).toNat).toNat)))) (I, S) := by
  refine w_X12_nearPlace_0 ?_
  refine up_loopN (P := fun k => fstB (npP (I a0) x1 x2) k = -1 → L_X12_nearPlace_2 d n0 a0 x1 x2 k I S (fstB (npP (I a0) x1 x2) (I a0 (10 * x1).toNat).toNat) (I, S)) (n := (I a0 (10 * x1).toNat).toNat) ?_ ?_ rfl
  · intro hf
    exact w_X12_nearPlace_2 (fun h => absurd h (by omega)) (fun _ => hf.symm) (r2 := fun h => absurd h (by omega))
  · intro k hk ih hf
    exact w_X12_nearPlace_2 (fun _ c => ih (fstB_succ hf (decide_eq_false c))) (fun h => absurd h (by omega)) (r2 := fun _ c => (fstB_here hf (decide_eq_true c) hk).symm)
/-- runs of some groups -/
def rnO (g : Nat → Int) (x : Int) : Nat → Int
  | 0 => 0
  | k + 1 => p_or (rnO g x k) (if p_and (p_shr x (g k)) 1 ≠ 1 then (0 : Int) else p_shl 1 (k : Int))
theorem c_X12_runsOf {x1 : Int} (hl0 : LyX12 S) (hr : 0 ≤ (I 156 37) ∧ (I 156 37) ≤ 7) : Ca d mX12_runsOf [vR (some (22, 0, 156)), vI x1] (I, S) (.inl (some (vI (rnO (I 176) x1 ((I 156 37)).toNat)))) (I, S) := by
  refine w_X12_runsOf_0 hl0 ?_
  refine up_loopN (P := fun k => L_X12_runsOf_4 d 156 x1 (rnO (I 176) x1 k) k I S (rnO (I 176) x1 ((I 156 37)).toNat) (I, S)) (n := ((I 156 37)).toNat) ?_ ?_
  · exact w_X12_runsOf_4 hl0 (fun h => absurd h (by omega)) (fun _ => rfl)
  · intro k hk ih
    exact w_X12_runsOf_4 hl0 (fun _ => ih) (fun h => absurd h (by omega))
/-- whether groups part two runs -/
def apQ (g : Nat → Int) (j i : Int) (a : Nat) (b : Nat) : Bool := decide (((b : Int) ≤ j ∨ i < (b : Int)) ∧ g (2 * (j + 1 + (a : Int))).toNat = g (2 * (b : Int)).toNat)
def apP (g : Nat → Int) (r j i : Int) (a : Nat) : Bool := anyB (apQ g j i a) ((r + 1) / 2).toNat
def apM (g : Nat → Int) (r j i : Int) : Bool := anyB (apP g r j i) (i - j).toNat
theorem c_X12_areParted {x1 x2 : Int} (hl0 : LyX12 S) (hr : 0 ≤ (I 156 37) ∧ (I 156 37) ≤ 7) (hj : 0 ≤ x1 ∧ x1 ≤ x2 ∧ x2 ≤ 3) : Ca (d + 1) mX12_areParted [vR (some (22, 0, 156)), vI x1, vI x2] (I, S) (.inl (some (vI (if apM (I 176) (I 156 37) x1 x2 = true then 1 else 0)))) (I, S) := by
  refine w_X12_areParted_0 hl0 ?_
  have h := up_loopN (P := fun a => anyB (apP (I 176) (I 156 37) x1 x2) a = false → L_X12_areParted_4 d 156 x1 x2 (x1 + 1 + (a : Int)) I S (if apM (I 176) (I 156 37) x1 x2 = true then 1 else 0) (I, S)) (n := (x2 - x1).toNat) ?_ ?_ rfl
  · rw [show x1 + 1 + ((0 : Nat) : Int) = x1 + 1 by omega] at h; exact h
  · intro hf
    exact w_X12_areParted_4 hl0 (fun h => absurd h (by omega)) (fun _ => by unfold apM; rw [hf]; rfl)
  · intro a ha iha hf
    refine w_X12_areParted_4 hl0 (fun _ => ?_) (fun h => absurd h (by omega))
    refine up_loopN (P := fun b => anyB (apQ (I 176) x1 x2 a) b = false → L_X12_areParted_12 d 156 x1 x2 (x1 + 1 + (a : Int)) b I S (if apM (I 176) (I 156 37) x1 x2 = true then 1 else 0) (I, S)) (n := (((I 156 37) + 1) / 2).toNat) ?_ ?_ rfl
    · intro hg
      refine w_X12_areParted_12 hl0 (fun _ => ?_) (fun h => absurd h (by omega)) (fun h => absurd h (by omega)) (fun h => absurd h (by omega)) (fun h => absurd h (by omega)) (r2 := fun h => absurd h (by omega))
      have := iha (anyB_succ hf hg)
      rw [show x1 + 1 + ((a + 1 : Nat) : Int) = x1 + 1 + (a : Int) + 1 by omega] at this
      exact this
    · intro b hb ihb hg
      have yes : apQ (I 176) x1 x2 a b = true → (1 : Int) = if apM (I 176) (I 156 37) x1 x2 = true then 1 else 0 := fun q => (if_pos (show apM (I 176) (I 156 37) x1 x2 = true from anyB_yes (p := apP (I 176) (I 156 37) x1 x2) ha (anyB_yes (p := apQ (I 176) x1 x2 a) hb q))).symm
      exact w_X12_areParted_12 hl0 (fun h => absurd h (by omega)) (fun _ c1 c2 => ihb (anyB_succ hg (decide_eq_false (fun q => c2 q.2)))) (fun _ c1 c2 => ihb (anyB_succ hg (decide_eq_false (fun q => by have := q.1; omega)))) (fun _ c1 c2 c3 => ihb (anyB_succ hg (decide_eq_false (fun q => c3 q.2)))) (fun _ c1 c2 => yes (decide_eq_true ⟨Or.inl c1, c2⟩)) (r2 := fun _ c1 c2 c3 => yes (decide_eq_true ⟨Or.inr c2, c3⟩))
/-- an act's state is kept -/
def kpI (I : Nat → Nat → Int) : Nat → Nat → Int := if (I 156 41) = 30 then up2 (up1 I 179 (upTo (upTo (I 179) (fun j => I 179 (j + 18)) 0 522) (fun j => I 178 (j - 522)) 522 18)) 156 41 30 else up2 (up1 I 179 (upTo (I 179) (fun j => I 178 (j - (18 * (I 156 41)).toNat)) (18 * (I 156 41)).toNat 18)) 156 41 ((I 156 41) + 1)
theorem c_X12_keeps (hl0 : LyX12 S) (ha : 0 ≤ (I 156 41) ∧ (I 156 41) ≤ 30) : Ca d mX12_keeps [vR (some (22, 0, 156))] (I, S) (.inl none) (kpI I, S) := by
  have tail : ∀ (f : Nat → Int) (n : Int), 0 ≤ n ∧ n < 30 → ∀ J, J 156 41 = n → J 178 = I 178 → ∀ h1, up2 (up1 J 179 (upTo (J 179) (fun j => I 178 (j - (18 * n).toNat)) (18 * n).toNat 18)) 156 41 (n + 1) = h1 → L_X12_keeps_52 d 156 0 J S (h1, S) := by
    intro f n hn J hJ hR h1 hh
    have h := up_loopN (P := fun k => ∀ J', J' = up1 J 179 (upTo (J 179) (fun j => I 178 (j - (18 * n).toNat)) (18 * n).toNat k) → L_X12_keeps_52 d 156 k J' S (h1, S)) (n := 18) ?_ ?_ J (upTo_start _ _ _ _).symm
    · exact h
    · intro J' hJ'
      have e : J' 156 41 = n := by rw [hJ']; exact hJ
      refine w_X12_keeps_52 hl0 (fun h => absurd h (by decide)) (fun _ => ?_)
      rw [e, ← hh, hJ']
    · intro k hk ih J' hJ'
      have e : J' 156 41 = n := by rw [hJ']; exact hJ
      have e2 : J' 178 = I 178 := by rw [hJ']; exact hR
      refine w_X12_keeps_52 hl0 (fun _ => ih _ ?_) (fun h => absurd h (by omega))
      rw [e, e2, hJ']
      exact upTo_step (by omega) (by congr 1; omega)
  refine w_X12_keeps_0 hl0 (fun hc => ?_) (fun hc => ?_)
  · exact tail (I 179) (I 156 41) (by omega) I rfl rfl _ (by unfold kpI; rw [if_neg hc])
  · have h := up_loopN (P := fun k => ∀ J, J = up1 I 179 (upTo (I 179) (fun j => I 179 (j + 18)) 0 k) → L_X12_keeps_12 d 156 ((k : Int) + 18) J S (kpI I, S)) (n := 522) ?_ ?_ I (upTo_start _ _ _ _).symm
    · exact h
    · intro J hJ
      have e : J 156 41 = 30 := by rw [hJ]; exact hc
      refine w_X12_keeps_12 hl0 (fun _ => ?_) (fun h => absurd h (by decide))
      rw [e]
      refine tail (I 179) 29 (by omega) _ (by rw [up2_same]; rfl) (by rw [hJ]; rfl) _ ?_
      unfold kpI
      rw [if_pos hc, hJ]
      have e2 : ∀ (X : Nat → Nat → Int) (g : Nat → Int) (v w : Int), up2 (up1 (up2 X 156 41 v) 179 g) 156 41 w = up2 (up1 X 179 g) 156 41 w := by
        intro X g v w
        funext a k
        unfold up2 up1
        by_cases h1 : a = 156 ∧ k = 41
        · rw [if_pos h1, if_pos h1]
        · rw [if_neg h1, if_neg h1]
          by_cases h2 : a = 179
          · rw [if_pos h2, if_pos h2]
          · rw [if_neg h2, if_neg h2]; show (if a = 156 ∧ k = 41 then v else X a k) = X a k; rw [if_neg h1]
      rw [e2]
      rw [up1_up1]
      rfl
    · intro k hk ih J hJ
      have e : J 156 41 = 30 := by rw [hJ]; exact hc
      refine w_X12_keeps_12 hl0 (fun h => absurd h (by omega)) (fun _ => ?_)
      have := ih (up2 J 179 ((k : Int) + 18 - 18).toNat (J 179 ((k : Int) + 18).toNat)) (by
        rw [hJ, up1_same, upTo_out (by omega)]
        exact upTo_step (by omega) (by congr 1; omega))
      rw [show ((k + 1 : Nat) : Int) + 18 = (k : Int) + 18 + 1 by omega] at this
      exact this
def unI (I : Nat → Nat → Int) : Nat → Nat → Int := if (I 156 41) = 0 then up2 I 156 0 0 else up1 (up2 (up2 I 156 0 0) 156 41 ((I 156 41) - 1)) 178 (upTo (I 178) (fun j => I 179 ((18 * ((I 156 41) - 1)).toNat + j)) 0 18)
theorem c_X12_undo (hl0 : LyX12 S) (ha : 0 ≤ (I 156 41) ∧ (I 156 41) ≤ 30) : Ca d mX12_undo [vR (some (22, 0, 156))] (I, S) (.inl (some (vI ((I 156 41) - 1)))) (unI I, S) := by
  refine w_X12_undo_0 hl0 (fun hc => ?_) (fun hc => by omega) (fun hc => by unfold unI; rw [if_pos hc])
  have hr : unI I = up1 (up2 (up2 I 156 0 0) 156 41 ((I 156 41) - 1)) 178 (upTo (I 178) (fun j => I 179 ((18 * ((I 156 41) - 1)).toNat + j)) 0 18) := if_neg hc
  rw [hr]
  refine up_loopN (P := fun k => ∀ J, J = up1 (up2 (up2 I 156 0 0) 156 41 ((I 156 41) - 1)) 178 (upTo (I 178) (fun j => I 179 ((18 * ((I 156 41) - 1)).toNat + j)) 0 k) → L_X12_undo_26 d 156 k J S ((I 156 41) - 1) (up1 (up2 (up2 I 156 0 0) 156 41 ((I 156 41) - 1)) 178 (upTo (I 178) (fun j => I 179 ((18 * ((I 156 41) - 1)).toNat + j)) 0 18), S)) (n := 18) ?_ ?_ _ ?_
  · intro J hJ
    have e : J 156 41 = (I 156 41) - 1 := by rw [hJ]; rfl
    exact w_X12_undo_26 hl0 (fun h => absurd h (by decide)) (fun _ => e) (fun _ => by rw [hJ])
  · intro k hk ih J hJ
    have e : J 156 41 = (I 156 41) - 1 := by rw [hJ]; rfl
    have e2 : J 179 = I 179 := by rw [hJ]; rfl
    refine w_X12_undo_26 hl0 (fun _ => ih _ ?_) (fun h => absurd h (by omega)) (fun h => absurd h (by omega))
    rw [e, e2, hJ]
    exact upTo_step (by omega) (by congr 1; omega)
  · rw [upTo_zero]
    exact (up1_self (up2 (up2 I 156 0 0) 156 41 ((I 156 41) - 1)) 178).symm
/-- colours changed in some runs -/
def otO (c pr : Int) : Int := if c ≠ 0 then ((if c ≠ pr + 1 then (6 - pr - 1 - c : Int) else 0) : Int) else pr + 1
def swS (r code pr : Int) (g : Nat → Int) (set : Int) : Nat → Int
  | 0 => 0
  | k + 1 => p_or (p_shl (swS r code pr g set k) 2) (if p_and (p_shr set (g k)) 1 ≠ 1 then (cAt r code k : Int) else otO (cAt r code k) pr)
theorem c_X12_switched0 {x1 x2 x3 x4 : Int} (hl0 : LyX12 S) (hp : 0 ≤ x1 ∧ x1 < 4) (hr : 0 ≤ I 159 ((20 * x1) + 9).toNat ∧ I 159 ((20 * x1) + 9).toNat ≤ 7) (hq : 0 ≤ x3 ∧ x3 ≤ 2) : Ca (d + 3) mX12_switched0 [vR (some (22, 0, 156)), vI x1, vI x2, vI x3, vI x4] (I, S) (.inl (some (vI (nmS (I 159 ((20 * x1) + 9).toNat) (swS (I 159 ((20 * x1) + 9).toNat) x2 x3 (I 175) x4 (I 159 ((20 * x1) + 9).toNat).toNat) (I 159 ((20 * x1) + 9).toNat).toNat).1))) (nmI I (I 159 ((20 * x1) + 9).toNat) (swS (I 159 ((20 * x1) + 9).toNat) x2 x3 (I 175) x4 (I 159 ((20 * x1) + 9).toNat).toNat), S) := by
  obtain ⟨r, hr0⟩ : ∃ r, r = I 159 ((20 * x1) + 9).toNat := ⟨_, rfl⟩
  rw [← hr0] at hr ⊢
  refine w_X12_switched0_0 hl0 ?_
  refine up_loopN (P := fun k => L_X12_switched0_6 d 156 x1 x2 x3 x4 (swS r x2 x3 (I 175) x4 k) k I S (nmS r (swS r x2 x3 (I 175) x4 r.toNat) r.toNat).1 (nmI I r (swS r x2 x3 (I 175) x4 r.toNat), S)) (n := r.toNat) ?_ ?_
  · exact w_X12_switched0_6 hl0 (fun h => absurd h (by omega)) (fun _ => by rw [← hr0]) (fun _ => by rw [← hr0])
  · intro k hk ih
    have h3 := p_and_3 (p_shr x2 (2 * ((r - 1) - k)))
    rw [hr0] at h3
    refine w_X12_switched0_6 hl0 (fun _ => ?_) (fun h => absurd h (by omega)) (fun h => absurd h (by omega))
    rw [← hr0]
    exact ih
/-- whether a vertex goes with one ahead of it -/
def gwP (I : Nat → Nat → Int) (p v : Int) (b : Prop) [Decidable b] (a : Nat) : Bool := decide (p_and (p_shr (I 165 ((15 * p) + v).toNat) (a : Int)) 1 = 0 ∨ ((if I 173 a = I 173 v.toNat then (1 : Int) else 0) = (if b ∧ (jnM (I 159) p a v = true) then (1 : Int) else 0)))
theorem c_X12_goesWith {x1 x2 : Int} {b3 : Prop} [Decidable b3] (hl0 : LyX12 S) (hp : 0 ≤ x1 ∧ x1 < 4) (hv : 0 ≤ x2 ∧ x2 < 15) (hj : 0 ≤ I 159 ((20 * x1) + 10).toNat ∧ I 159 ((20 * x1) + 10).toNat ≤ 4) : Ca (d + 1) mX12_goesWith [vR (some (22, 0, 156)), vI x1, vI x2, vI (if b3 then (1 : Int) else 0)] (I, S) (.inl (some (vI (if allB (gwP I x1 x2 b3) x2.toNat = true then 1 else 0)))) (I, S) := by
  refine w_X12_goesWith_0 hl0 ?_
  refine up_loopN (P := fun k => allB (gwP I x1 x2 b3) k = true → L_X12_goesWith_3 d 156 x1 x2 (if b3 then (1 : Int) else 0) k I S (if allB (gwP I x1 x2 b3) x2.toNat = true then 1 else 0) (I, S)) (n := x2.toNat) ?_ ?_ rfl
  · intro hf
    exact w_X12_goesWith_3 hl0 (fun h => absurd h (by omega)) (fun h => absurd h (by omega)) (fun _ => (if_pos hf).symm) (r2 := fun h => absurd h (by omega))
  · intro k hk ih hf
    refine w_X12_goesWith_3 hl0 (fun _ _ c => ih (allB_succ hf (decide_eq_true (Or.inr c)))) (fun _ c => ih (allB_succ hf (decide_eq_true (Or.inl c)))) (fun h => absurd h (by omega)) (r2 := fun _ c c2 => ?_)
    rw [allB_no hk (decide_eq_false (fun q => q.elim c c2))]; rfl
end
end
