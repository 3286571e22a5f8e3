noncomputable section
/-- places gone round in steps -/
def atI (s st dg : Int) : Nat → Int
  | 0 => s
  | k + 1 => if atI s st dg k + st < dg then (atI s st dg k + st : Int) else atI s st dg k + st - dg
theorem atI_in {s st dg : Int} (h : 0 ≤ s ∧ s < dg) (ht : 0 ≤ st ∧ st ≤ dg) : ∀ k, 0 ≤ atI s st dg k ∧ atI s st dg k < dg
  | 0 => h
  | k + 1 => by
    have := atI_in h ht k
    unfold atI
    split <;> omega
theorem and_step {p : Nat → Bool} {k : Nat} {Q : Prop} [Decidable Q] (h : p k = decide Q) : allB p (k + 1) = true ↔ ((if allB p k = true then (1 : Int) else 0) ≠ 0) ∧ Q := by
  show (allB p k && p k) = true ↔ _
  rw [Bool.and_eq_true, h, decide_eq_true_iff]
  constructor
  · intro q; exact ⟨by rw [if_pos q.1]; decide, q.2⟩
  · intro q; exact ⟨b2t q.1, q.2⟩
section
variable {d : Nat} {I : Nat → Nat → Int} {S : PS}
def stP (I : Nat → Nat → Int) (a0 a4 : Nat) (s st dg : Int) (k : Nat) : Bool := decide (I a4 (atI s st dg k).toNat = I (a0 + 1) k)
theorem c_X3_standsAt {a0 n4 a4 : Nat} {x1 x2 x3 : Int} (hl0 : LyX3 S a0) (hs : 0 ≤ x1 ∧ x1 < x3) (ht : 0 ≤ x2 ∧ x2 ≤ x3) (hn : x3 ≤ n4 ∧ n4 ≤ 9) (hk : 0 ≤ I a0 1 ∧ I a0 1 ≤ 7) : Ca d mX3_standsAt [vR (some (14, 0, a0)), vI x1, vI x2, vI x3, vR (some (0, n4, a4))] (I, S) (.inl (some (vI (if allB (stP I a0 a4 x1 x2 x3) (I a0 1).toNat = true then 1 else 0)))) (I, S) := by
  refine w_X3_standsAt_0 hl0 ?_
  refine up_loopN (P := fun k => allB (stP I a0 a4 x1 x2 x3) k = true → L_X3_standsAt_6 d a0 x1 x2 x3 n4 a4 (atI x1 x2 x3 k) k I S (if allB (stP I a0 a4 x1 x2 x3) (I a0 1).toNat = true then 1 else 0) (I, S)) (n := (I a0 1).toNat) ?_ ?_ rfl
  · intro hf
    exact w_X3_standsAt_6 hl0 (fun h => absurd h (by omega)) (fun _ => (if_pos hf).symm) (r2 := fun h => absurd h (by omega))
  · intro k hk2 ih hf
    have := atI_in hs ht k
    exact w_X3_standsAt_6 hl0 (fun _ c => ih (allB_succ hf (decide_eq_true c))) (fun h => absurd h (by omega)) (r2 := fun _ c => by rw [allB_no hk2 (decide_eq_false c)]; rfl)
/-- places on and back, the reference's -/
def onP (I : Nat → Nat → Int) (p dg fr : Int) (k : Nat) : Bool := decide (I 177 ((fr + (k : Int)) % dg).toNat = I 159 (((20 * p) + 2) + (k : Int)).toNat)
def bkP (I : Nat → Nat → Int) (p dg fr : Int) (k : Nat) : Bool := decide (I 177 ((fr + dg - (k : Int)) % dg).toNat = I 159 (((20 * p) + 2) + (k : Int)).toNat)
def hdP (I : Nat → Nat → Int) (p dg : Int) (fr : Nat) : Bool := allB (onP I p dg fr) (I 159 ((20 * p) + 1).toNat).toNat || allB (bkP I p dg fr) (I 159 ((20 * p) + 1).toNat).toNat
def hdM (I : Nat → Nat → Int) (p dg : Int) : Bool := decide (I 159 (20 * p).toNat = dg) && anyB (hdP I p dg) dg.toNat
theorem c_X12_doesHold {x1 x2 : Int} (hl0 : LyX12 S) (hp : 0 ≤ x1 ∧ x1 < 4) (hd : 1 ≤ x2 ∧ x2 ≤ 9) (hk : 0 ≤ I 159 ((20 * x1) + 1).toNat ∧ I 159 ((20 * x1) + 1).toNat ≤ 7) (hk2 : I 159 (20 * x1).toNat = x2 → I 159 ((20 * x1) + 1).toNat ≤ x2) : Ca d mX12_doesHold [vR (some (22, 0, 156)), vI x1, vI x2] (I, S) (.inl (some (vI (if hdM I x1 x2 = true then 1 else 0)))) (I, S) := by
  refine w_X12_doesHold_0 hl0 (fun hc => ?_) (fun hc => by unfold hdM; rw [decide_eq_false hc]; rfl)
  have hk2 := hk2 hc
  have hM : hdM I x1 x2 = anyB (hdP I x1 x2) x2.toNat := by unfold hdM; rw [decide_eq_true hc, Bool.true_and]
  rw [hM]
  refine up_loopN (P := fun f => anyB (hdP I x1 x2) f = false → L_X12_doesHold_30 d 156 x1 x2 (I 159 ((20 * x1) + 1).toNat) f I S (if anyB (hdP I x1 x2) x2.toNat = true then 1 else 0) (I, S)) (n := x2.toNat) ?_ ?_ rfl
  · intro hf
    exact w_X12_doesHold_30 hl0 (fun h => absurd h (by omega)) (fun _ => by rw [hf]; rfl)
  · intro f hf1 ihf hf
    refine w_X12_doesHold_30 hl0 (fun _ => ?_) (fun h => absurd h (by omega))
    refine up_loopN (P := fun k => L_X12_doesHold_45 d 156 x1 x2 (I 159 ((20 * x1) + 1).toNat) f (if allB (onP I x1 x2 f) k = true then 1 else 0) (if allB (bkP I x1 x2 f) k = true then 1 else 0) k I S (if anyB (hdP I x1 x2) x2.toNat = true then 1 else 0) (I, S)) (n := (I 159 ((20 * x1) + 1).toNat).toNat) ?_ ?_
    · refine w_X12_doesHold_45 hl0 (fun _ c1 c2 => ihf (anyB_succ hf ?_)) (fun h => absurd h (by omega)) (fun _ c => (if_pos (anyB_yes hf1 ?_)).symm) (r2 := fun _ c1 c => (if_pos (anyB_yes hf1 ?_)).symm) (v4 := fun h => absurd h (by omega)) (v5 := fun h => absurd h (by omega)) (v8 := fun h => absurd h (by omega)) (v9 := fun h => absurd h (by omega))
      · unfold hdP; rw [Bool.eq_false_iff.mpr (b2f c1), Bool.eq_false_iff.mpr (b2f c2)]; rfl
      · unfold hdP; rw [b2t c]; rfl
      · unfold hdP; rw [b2t c, Bool.or_true]
    · intro k hk3 ih
      have h1 : 0 ≤ ((f : Int) + k) % x2 := Int.emod_nonneg _ (by omega)
      have h2 : ((f : Int) + k) % x2 < x2 := Int.emod_lt_of_pos _ (by omega)
      have h3 : 0 ≤ ((f : Int) + x2 - k) % x2 := Int.emod_nonneg _ (by omega)
      have h4 : ((f : Int) + x2 - k) % x2 < x2 := Int.emod_lt_of_pos _ (by omega)
      refine w_X12_doesHold_45 hl0 (fun h => absurd h (by omega)) (fun _ => ?_) (fun h => absurd h (by omega)) (r2 := fun h => absurd h (by omega))
      have e1 : (if allB (onP I x1 x2 f) (k + 1) = true then (1 : Int) else 0) = if ((if allB (onP I x1 x2 f) k = true then (1 : Int) else 0) ≠ 0) ∧ (I 177 ((f + (k : Int)) % x2).toNat = I 159 (((20 * x1) + 2) + (k : Int)).toNat) then 1 else 0 := ite_iff (and_step rfl)
      have e2 : (if allB (bkP I x1 x2 f) (k + 1) = true then (1 : Int) else 0) = if ((if allB (bkP I x1 x2 f) k = true then (1 : Int) else 0) ≠ 0) ∧ (I 177 ((f + x2 - (k : Int)) % x2).toNat = I 159 (((20 * x1) + 2) + (k : Int)).toNat) then 1 else 0 := ite_iff (and_step rfl)
      rw [e1, e2] at ih
      exact ih
end
end
