/-! ===== whether some switch leads below, the reference's ===== -/
noncomputable section
def hmO (g : Nat → Int) : Nat → Int
  | 0 => 0
  | k + 1 => p_or (hmO g k) (p_shl 1 (g k))
section
variable {d : Nat} {I : Nat → Nat → Int} {S : PS}
/-- what becomes of a colouring, if some groups are switched -/
def lwT (r code q : Int) (rof g : Nat → Int) (R gs : Int) : Int := (nmS r (swS r code q rof (rnO g gs R.toNat) r.toNat) r.toNat).1
def lwP (r code q : Int) (rof g : Nat → Int) (R : Int) (lv ix : Nat → Int) (p round : Int) (gs : Nat) : Bool := decide (p_and (gs : Int) (p_xor (hmO g R.toNat) (-1)) = 0) && decide (lv ((96 * p) + ix (lwT r code q rof g R (gs : Int)).toNat).toNat ≠ -1 ∧ lv ((96 * p) + ix (lwT r code q rof g R (gs : Int)).toNat).toNat < round)
def lwB (r code q : Int) (rof g : Nat → Int) (R : Int) (lv ix : Nat → Int) (p round : Int) : Bool := anyB (lwP r code q rof g R lv ix p round) 128
theorem lw_M {p code q round : Int} (hl0 : LyX12 S) (hp : 0 ≤ p ∧ p < 4) (hr : 1 ≤ I 159 ((20 * p) + 9).toNat ∧ I 159 ((20 * p) + 9).toNat ≤ 7) (hq : 0 ≤ q ∧ q ≤ 2) (hR : 0 ≤ (I 156 37) ∧ (I 156 37) ≤ 7) (hi : ∀ gs : Nat, gs < 128 → p_and (gs : Int) (p_xor (hmO (I 176) ((I 156 37)).toNat) (-1)) = 0 → (0 ≤ lwT (I 159 ((20 * p) + 9).toNat) code q (I 175) (I 176) (I 156 37) (gs : Int) ∧ lwT (I 159 ((20 * p) + 9).toNat) code q (I 175) (I 176) (I 156 37) (gs : Int) < 16384) ∧ 0 ≤ (96 * p) + I 172 (lwT (I 159 ((20 * p) + 9).toNat) code q (I 175) (I 176) (I 156 37) (gs : Int)).toNat ∧ (96 * p) + I 172 (lwT (I 159 ((20 * p) + 9).toNat) code q (I 175) (I 176) (I 156 37) (gs : Int)).toNat < 384) : ∃ J, Ca (d + 4) mX12_isLower [vR (some (22, 0, 156)), vI p, vI code, vI q, vI round] (I, S) (.inl (some (vI (if lwB (I 159 ((20 * p) + 9).toNat) code q (I 175) (I 176) (I 156 37) (I 171) (I 172) p round = true then 1 else 0)))) (J, S) ∧ ∀ a, a ≠ 174 → J a = I a := by
  obtain ⟨r, hr0⟩ : ∃ r, r = I 159 ((20 * p) + 9).toNat := ⟨_, rfl⟩
  obtain ⟨R, hR0⟩ : ∃ R, R = (I 156 37) := ⟨_, rfl⟩
  rw [← hr0] at hr hi ⊢
  rw [← hR0] at hR hi ⊢
  obtain ⟨B, hB⟩ : ∃ B, B = lwP r code q (I 175) (I 176) R (I 171) (I 172) p round := ⟨_, rfl⟩
  have hBB : lwB r code q (I 175) (I 176) R (I 171) (I 172) p round = anyB B 128 := by rw [hB]; rfl
  rw [hBB]
  have loop : ∀ (t gs : Nat) (J : Nat → Nat → Int), gs + t = 128 → (∀ m, m < gs → B m = false) → (∀ a, a ≠ 174 → J a = I a) → ∃ J', L_X12_isLower_38 d 156 p code q round (hmO (I 176) R.toNat) (gs : Int) J S (if anyB B 128 = true then 1 else 0) (J', S) ∧ ∀ a, a ≠ 174 → J' a = I a := by
    intro t
    induction t with
    | zero =>
      intro gs J hg hno hf
      have : anyB B 128 = false := by
        cases w : anyB B 128 with
        | false => rfl
        | true =>
          obtain ⟨m, hm, w2⟩ := anyB_iff.mp w
          rw [hno m (by omega)] at w2
          cases w2
      exact ⟨J, w_X12_isLower_38 hl0 (fun h => absurd h (by omega)) (fun h => absurd h (by omega)) (fun h => absurd h (by omega)) (fun _ => by rw [this]; rfl) (e1 := fun _ => rfl) (r2 := fun h => absurd h (by omega)) (e2 := fun h => absurd h (by omega)) (v2 := fun h => absurd h (by omega)) (v3 := fun h => absurd h (by omega)) (v4 := fun h => absurd h (by omega)) (v5 := fun h => absurd h (by omega)) (v6 := fun h => absurd h (by omega)) (v7 := fun h => absurd h (by omega)) (v8 := fun h => absurd h (by omega)), hf⟩
    | succ t ih =>
      intro gs J hg hno hf
      have jr : J 159 ((20 * p) + 9).toNat = r := by rw [hf 159 (by decide)]; exact hr0.symm
      have jR : J 156 37 = R := by rw [hf 156 (by decide)]; exact hR0.symm
      have j1 := hf 175 (by decide)
      have j2 := hf 176 (by decide)
      have j3 := hf 171 (by decide)
      have j4 := hf 172 (by decide)
      obtain ⟨sw, hsw⟩ : ∃ sw, sw = swS (J 159 ((20 * p) + 9).toNat) code q (J 175) (rnO (J 176) (gs : Int) ((J 156 37)).toNat) (J 159 ((20 * p) + 9).toNat).toNat := ⟨_, rfl⟩
      have hT : (nmS (J 159 ((20 * p) + 9).toNat) sw (J 159 ((20 * p) + 9).toNat).toNat).1 = lwT r code q (I 175) (I 176) R (gs : Int) := by rw [hsw, jr, jR, j1, j2]; rfl
      obtain ⟨T, hT0⟩ : ∃ T, T = lwT r code q (I 175) (I 176) R (gs : Int) := ⟨_, rfl⟩
      rw [← hT0] at hT
      have hi := hi gs (by omega)
      rw [← hT0] at hi
      have hBg : B gs = (decide (p_and (gs : Int) (p_xor (hmO (I 176) R.toNat) (-1)) = 0) && decide (I 171 ((96 * p) + I 172 T.toNat).toNat ≠ -1 ∧ I 171 ((96 * p) + I 172 T.toNat).toNat < round)) := by rw [hB, hT0]; rfl
      have nxt : B gs = false → ∀ m, m < gs + 1 → B m = false := fun hb m hm => by
        by_cases e : m = gs
        · rw [e]; exact hb
        · exact hno m (by omega)
      by_cases hin : p_and (gs : Int) (p_xor (hmO (I 176) R.toNat) (-1)) = 0
      · have hi := hi hin
        have hFn : ∀ X, (∀ a, a ≠ 174 → nmI J r X a = I a) := fun X a ha => by unfold nmI; rw [up1_o _ ha, hf a ha]
        have eJ : I 171 ((96 * p) + I 172 T.toNat).toNat = J 171 ((96 * p) + (J 172 (nmS (J 159 ((20 * p) + 9).toNat) sw (J 159 ((20 * p) + 9).toNat).toNat).1.toNat)).toNat := by rw [hT, j3, j4]
        by_cases hlev : I 171 ((96 * p) + I 172 T.toNat).toNat ≠ -1 ∧ I 171 ((96 * p) + I 172 T.toNat).toNat < round
        · have hb : B gs = true := by rw [hBg, decide_eq_true hin, decide_eq_true hlev]; rfl
          rw [eJ] at hlev
          rw [hsw] at hlev
          refine ⟨nmI J (J 159 ((20 * p) + 9).toNat) sw, w_X12_isLower_38 hl0 (fun _ _ h => absurd h hlev.1) (fun _ _ _ h => absurd h (by have := hlev.2; omega)) (fun _ h => absurd hin h) (fun h => absurd h (by omega)) (e1 := fun h => absurd h (by omega)) (r2 := fun _ _ _ _ => by rw [anyB_yes (show gs < 128 by omega) hb]; rfl) (e2 := fun _ _ _ _ => by rw [hsw]) (v2 := fun _ _ => by rw [jR]; exact hR) (v4 := fun _ _ => by rw [jr]; omega) (v6 := fun _ _ => by rw [← hsw, hT]; exact hi.1) (v7 := fun _ _ => by rw [← hsw, hT, j4]; have := hi.2; omega) (v8 := fun _ _ => by rw [← hsw, hT, j4]; exact hi.2), by rw [jr]; exact hFn sw⟩
        · have hb : B gs = false := by rw [hBg, decide_eq_false hlev, Bool.and_false]
          rw [eJ, hsw] at hlev
          obtain ⟨J', hL, hf'⟩ := ih (gs + 1) (nmI J (J 159 ((20 * p) + 9).toNat) sw) (by omega) (nxt hb) (by rw [jr]; exact hFn sw)
          rw [hsw] at hL
          exact ⟨J', w_X12_isLower_38 hl0 (fun _ _ _ => hL) (fun _ _ _ _ => hL) (fun _ h => absurd hin h) (fun h => absurd h (by omega)) (e1 := fun h => absurd h (by omega)) (r2 := fun _ _ h1 h2 => absurd ⟨h1, h2⟩ hlev) (e2 := fun _ _ h1 h2 => absurd ⟨h1, h2⟩ hlev) (v2 := fun _ _ => by rw [jR]; exact hR) (v4 := fun _ _ => by rw [jr]; omega) (v6 := fun _ _ => by rw [← hsw, hT]; exact hi.1) (v7 := fun _ _ => by rw [← hsw, hT, j4]; have := hi.2; omega) (v8 := fun _ _ => by rw [← hsw, hT, j4]; exact hi.2), hf'⟩
      · have hb : B gs = false := by rw [hBg, decide_eq_false hin, Bool.false_and]
        obtain ⟨J', hL, hf'⟩ := ih (gs + 1) J (by omega) (nxt hb) hf
        exact ⟨J', w_X12_isLower_38 hl0 (fun _ h => absurd h hin) (fun _ h => absurd h hin) (fun _ _ => hL) (fun h => absurd h (by omega)) (e1 := fun h => absurd h (by omega)) (r2 := fun _ h => absurd h hin) (e2 := fun _ h => absurd h hin) (v2 := fun _ h => absurd h hin) (v3 := fun _ h => absurd h hin) (v4 := fun _ h => absurd h hin) (v5 := fun _ h => absurd h hin) (v6 := fun _ h => absurd h hin) (v7 := fun _ h => absurd h hin) (v8 := fun _ h => absurd h hin), hf'⟩
  obtain ⟨J', hL, hf'⟩ := loop 128 0 I rfl (fun m hm => absurd hm (by omega)) (fun _ _ => rfl)
  refine ⟨J', w_X12_isLower_0 hl0 ?_, hf'⟩
  refine up_loopN (P := fun k => L_X12_isLower_6 d 156 p code q round (hmO (I 176) k) (k : Int) I S (if anyB B 128 = true then 1 else 0) (J', S)) (n := R.toNat) ?_ ?_
  · exact w_X12_isLower_6 hl0 (fun _ => hL) (fun h => absurd h (by omega))
  · intro k hk ihk
    exact w_X12_isLower_6 hl0 (fun h => absurd h (by omega)) (fun _ => ihk)
end
end
