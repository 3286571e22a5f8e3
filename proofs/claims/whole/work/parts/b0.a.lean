/-! ===== rows that are covered, the reference's ===== -/
noncomputable section
section
variable {d : Nat} {I : Nat → Nat → Int} {S : PS}
def bdO (I : Nat → Nat → Int) (p : Int) : Int := smI (fun k => if I 171 ((96 * p) + (k : Int)).toNat = (-1) then 1 else 0) (I 167 p.toNat).toNat
/-- a piece is reducible -/
def rdM (I : Nat → Nat → Int) (p : Nat) : Bool := decide (bdO I p = 0) || icM I p
/-- pieces as they stand in the reference -/
def mPs (I : Nat → Nat → Int) : Prop := (0 ≤ (I 156 13) ∧ (I 156 13) ≤ 4) ∧ (∀ p : Nat, (p : Int) < (I 156 13) → (0 ≤ I 159 ((20 * (p : Int)) + 1).toNat ∧ I 159 ((20 * (p : Int)) + 1).toNat ≤ 7) ∧ I 159 ((20 * (p : Int)) + 1).toNat ≤ I 159 (20 * (p : Int)).toNat) ∧ ∀ p : Nat, (p : Int) < (I 156 13) → (0 ≤ I 167 p ∧ I 167 p ≤ 96) ∧ ∀ k : Nat, (k : Int) < I 167 p → 0 ≤ I 170 ((96 * (p : Int)) + (k : Int)).toNat ∧ I 170 ((96 * (p : Int)) + (k : Int)).toNat ≤ 1
def cvM (I : Nat → Nat → Int) (dg : Int) : Bool := anyB (fun p => bt (hoM I dg ((I 156 13)).toNat) p && rdM I p) ((I 156 13)).toNat
theorem c_X12_isCovered {x1 : Int} (hl0 : LyX12 S) (hm : mPs I) (hd : 1 ≤ x1 ∧ x1 ≤ 9) : Ca (d + 3) mX12_isCovered [vR (some (22, 0, 156)), vI x1] (I, S) (.inl (some (vI (if cvM I x1 = true then 1 else 0)))) (I, S) := by
  obtain ⟨h1, h2, h3⟩ := id hm
  refine w_X12_isCovered_0 hl0 ?_ (v3 := h2)
  refine up_loopN (P := fun p => anyB (fun p => bt (hoM I x1 ((I 156 13)).toNat) p && rdM I p) p = false → L_X12_isCovered_8 d 156 x1 (hoM I x1 ((I 156 13)).toNat) p I S (if cvM I x1 = true then 1 else 0) (I, S)) (n := ((I 156 13)).toNat) ?_ ?_ rfl
  · intro hf
    exact w_X12_isCovered_8 hl0 (fun h => absurd h (by omega)) (fun h => absurd h (by omega)) (fun _ => by unfold cvM; rw [hf]; rfl) (r2 := fun h => absurd h (by omega)) (v3 := fun h => absurd h (by omega)) (v4 := fun h => absurd h (by omega))
  · intro p hp ih hf
    have h4 := h3 p (by omega)
    have tst := p_tst_1 (x := hoM I x1 ((I 156 13)).toNat) (s := (p : Int)) (by omega)
    rw [Int.toNat_natCast] at tst
    have rd : (((smI (fun k => if I 171 ((96 * (p : Int)) + (k : Int)).toNat = (-1) then 1 else 0) (I 167 (p : Int).toNat).toNat) = 0) ∨ (icM I (p : Int) = true)) ↔ rdM I p = true := by
      unfold rdM bdO
      rw [Bool.or_eq_true, decide_eq_true_iff]
    refine w_X12_isCovered_8 hl0 (fun _ c => ih (anyB_succ hf ?_)) (fun _ c q => ih (anyB_succ hf ?_)) (fun h => absurd h (by omega)) (r2 := fun _ c q => (if_pos (anyB_yes (p := fun p => bt (hoM I x1 ((I 156 13)).toNat) p && rdM I p) hp ?_)).symm) (v3 := fun _ _ => by rw [Int.toNat_natCast]; exact h4.1) (v4 := fun _ _ _ => by rw [Int.toNat_natCast]; exact h4.2)
    · have : bt (hoM I x1 ((I 156 13)).toNat) p = false := by
        cases e : bt (hoM I x1 ((I 156 13)).toNat) p with
        | false => rfl
        | true => exact absurd (tst.mpr e) c
      rw [this]; rfl
    · have : rdM I p = false := by
        cases e : rdM I p with
        | false => rfl
        | true => exact absurd (rd.mpr e) q
      rw [this, Bool.and_false]
    · show (bt (hoM I x1 ((I 156 13)).toNat) p && rdM I p) = true
      rw [tst.mp c, rd.mp q]; rfl
end
end
