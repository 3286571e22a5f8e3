/-! ===== a piece is studied: all of it ===== -/
noncomputable section
section
variable {d : Nat} {I : Nat → Nat → Int} {S : PS}
/-- what study leaves alone -/
def stF (a0 : Nat) (I J : Nat → Nat → Int) : Prop := ∀ a, a ≠ a0 → a ≠ a0 + 4 → a ≠ a0 + 5 → a ≠ a0 + 6 → a ≠ a0 + 7 → a ≠ a0 + 8 → J a = I a
theorem su_C {a0 a1 F V N : Nat} {ed jn : Nat → Nat → Bool} {cd : Nat → Int} (hl0 : LyX3 S a0) (hl1 : LyX6 S a1) (hE : cEd I a0 V ed jn) (hF : I a0 3 = (F : Int)) (hF1 : I a1 0 = (F : Int)) (hF7 : F ≤ 7) (hV : F ≤ V ∧ V ≤ F + 8) (hR : rgO I S a1 N) (hcd : ∀ i, i < N → I (a1 + 1) i = cd i) (ha : 31 ≤ a0 ∧ ∀ j, j < 9 → a0 + j ≠ a1 ∧ a0 + j ≠ a1 + 1 ∧ a0 + j ≠ a1 + 3 ∧ a0 + j ≠ a1 + 4) : ∃ (J : Nat → Nat → Int) (g : Nat → Int), Ca (d + 22) mX3_study [vR (some (14, 0, a0)), vR (some (16, 0, a1))] (I, S) (.inl none) (J, S) ∧ stF a0 I J ∧ (∀ i, i ≠ 9 → i ≠ 14 → J a0 i = I a0 i) ∧ J a0 9 = 1 ∧ (∀ i, i < N → g i = if lpE ed jn F V false (cd i) = true then 0 else -1) ∧ J (a0 + 5) = lvF (ledC (I (a1 + 3)) (I (a1 + 4)) I) N N 1 g ∧ J a0 14 = lvL (ledC (I (a1 + 3)) (I (a1 + 4)) I) N N 1 g ∧ wdO (J (a0 + 6)) (fun i => lpE ed jn F V false (cd i)) N ∧ wdO (J (a0 + 7)) (fun i => decide (J (a0 + 5) i = -1)) N ∧ wdO (J (a0 + 8)) (fun i => decide (0 < I a0 6) && lpE ed jn F V true (cd i)) N := by
  have hN := hR.1
  have h91 := hR.2.1
  have a04 := ha.2 4 (by decide)
  have a05 := ha.2 5 (by decide)
  have a06 := ha.2 6 (by decide)
  have a07 := ha.2 7 (by decide)
  have a08 := ha.2 8 (by decide)
  have a00 := ha.2 0 (by decide)
  have a31 := ha.1
  obtain ⟨E0, hE0⟩ : ∃ E0 : Nat → Bool, E0 = fun i => lpE ed jn F V false (cd i) := ⟨_, rfl⟩
  obtain ⟨E1, hE1⟩ : ∃ E1 : Nat → Bool, E1 = fun i => decide (0 < I a0 6) && lpE ed jn F V true (cd i) := ⟨_, rfl⟩
  have hE0c : ∀ c, E0 c = lpE ed jn F V false (cd c) := fun c => by rw [hE0]
  have hE1c : ∀ c, E1 c = (decide (0 < I a0 6) && lpE ed jn F V true (cd c)) := fun c => by rw [hE1]
  rw [← hE0, ← hE1]
  have loop : ∀ (t c : Nat) (X : Nat → Nat → Int), c + t = N → stF a0 I X → X a0 = I a0 → (∀ i, i < c → X (a0 + 5) i = if E0 i = true then 0 else -1) → wdO (X (a0 + 6)) E0 c → wdO (X (a0 + 8)) E1 c → (∀ w, w < 3 → X (a0 + 7) w = 0) → ∃ (J : Nat → Nat → Int) (g : Nat → Int), L_X3_study_26 d a0 a1 (c : Int) X S (J, S) ∧ stF a0 I J ∧ (∀ i, i ≠ 9 → i ≠ 14 → J a0 i = I a0 i) ∧ J a0 9 = 1 ∧ (∀ i, i < N → g i = if E0 i = true then 0 else -1) ∧ J (a0 + 5) = lvF (ledC (I (a1 + 3)) (I (a1 + 4)) I) N N 1 g ∧ J a0 14 = lvL (ledC (I (a1 + 3)) (I (a1 + 4)) I) N N 1 g ∧ wdO (J (a0 + 6)) E0 N ∧ wdO (J (a0 + 7)) (fun i => decide (J (a0 + 5) i = -1)) N ∧ wdO (J (a0 + 8)) E1 N := by
    intro t
    induction t with
    | zero =>
      intro c X hc hX hX0 hlv hw6 hw8 hw7
      have hcN : c = N := by omega
      subst hcN
      have xa : ∀ a, a = a1 ∨ a = a1 + 1 ∨ a = a1 + 3 ∨ a = a1 + 4 → X a = I a := fun a h => hX a (by omega) (by omega) (by omega) (by omega) (by omega) (by omega)
      have xsw : ∀ j, j < 4 → X j = I j := fun j hj => hX j (by omega) (by omega) (by omega) (by omega) (by omega) (by omega)
      have xN : X a1 1 = (c : Int) := by rw [xa a1 (Or.inl rfl)]; exact hN
      obtain ⟨g, hg⟩ : ∃ g, g = X (a0 + 5) := ⟨_, rfl⟩
      obtain ⟨Y, hY⟩ : ∃ Y, Y = up2 X a0 14 0 := ⟨_, rfl⟩
      have yo : ∀ a, a ≠ a0 → Y a = X a := fun a q => by rw [hY]; funext j; rw [up2_a _ q]
      obtain ⟨Z, hZ⟩ : ∃ Z, Z = up2 (up1 Y (a0 + 5) (lvF (ledC (I (a1 + 3)) (I (a1 + 4)) I) c c 1 (Y (a0 + 5)))) a0 14 (lvL (ledC (I (a1 + 3)) (I (a1 + 4)) I) c c 1 (Y (a0 + 5))) := ⟨_, rfl⟩
      have y5 : Y (a0 + 5) = g := by rw [yo _ (by omega), hg]
      have zo : ∀ a, a ≠ a0 → a ≠ a0 + 5 → Z a = X a := fun a q1 q2 => by rw [hZ]; funext j; rw [up2_a _ q1, up1_o _ q2, yo a q1]
      have z5 : Z (a0 + 5) = lvF (ledC (I (a1 + 3)) (I (a1 + 4)) I) c c 1 g := by rw [hZ, y5]; funext j; rw [up2_a _ (by omega), up1_same]
      obtain ⟨J, hL, g1, g2, g3, g4⟩ := sb_C (d := d) (S := S) (a0 := a0) (a1 := a1) (N := c) hl0 hl1 h91 a07.1 c 0 Z (by omega) (by rw [zo a1 (by omega) (by omega)]; exact xN) (wdO_zero (fun w hw => by rw [zo (a0 + 7) (by omega) (by omega)]; exact hw7 w hw))
      rw [hZ] at hL
      have hL2 := sr_C (d := d) (S := S) (a0 := a0) (a1 := a1) (N := c) (rcn := I (a1 + 3)) (bc := I (a1 + 4)) (sw := I) (h1 := (J, S)) hl0 hl1 ⟨a05.1, a05.2.2.1, a05.2.2.2, a31⟩ ⟨a00.1, a00.2.2.1, a00.2.2.2⟩ c 1 Y (by omega) (by decide) (by
        unfold rgO
        rw [yo a1 (by omega), xa a1 (Or.inl rfl), yo (a1 + 4) (by omega), xa (a1 + 4) (by omega)]
        refine ⟨hN, h91, hR.2.2.1, fun j i hj1 hj => ?_, hR.2.2.2.2⟩
        rw [yo j (by omega), xsw j hj]
        exact hR.2.2.2.1 j i hj1 hj) (by rw [yo (a1 + 3) (by omega), xa (a1 + 3) (by omega)]) (by rw [yo (a1 + 4) (by omega), xa (a1 + 4) (by omega)]) (fun j hj => by rw [yo j (by omega), xsw j hj]) (by rw [hY, up2_same]; rfl) hL
      rw [hY] at hL2
      have j5 : J (a0 + 5) = lvF (ledC (I (a1 + 3)) (I (a1 + 4)) I) c c 1 g := by rw [g1 (a0 + 5) (by omega) (by omega), z5]
      refine ⟨J, g, w_X3_study_26 (J1 := X) (J2 := X) (J3 := X) (z1 := true) (z2 := true) (z3 := true) hl0 hl1 (fun _ => hL2) (fun h => absurd h (by omega)) (fun h => absurd h (by omega)) (fun h => absurd h (by omega)) (fun h => absurd h (by omega)) (fun h => absurd h (by omega)) (fun h => absurd h (by omega)) (fun h => absurd h (by omega)) (fun h => absurd h (by omega)) (fun h => absurd h (by omega)) (v4 := fun h => absurd h (by omega)) (v6 := fun h => absurd h (by omega)), fun a q0 q4 q5 q6 q7 q8 => ?_, fun i q9 q14 => ?_, g3, fun i hi => ?_, j5, ?_, ?_, ?_, ?_⟩
      · rw [g1 a q7 q0, zo a q0 q5]; exact hX a q0 q4 q5 q6 q7 q8
      · rw [g2 i q9, hZ, up2_k _ q14, up1_o _ (by omega), hY, up2_k _ q14, hX0]
      · rw [hg]; exact hlv i hi
      · rw [g2 14 (by decide), hZ, up2_same, y5]
      · rw [g1 (a0 + 6) (by omega) (by omega), zo (a0 + 6) (by omega) (by omega)]; exact hw6
      · rw [j5]; rw [z5] at g4; exact g4
      · rw [g1 (a0 + 8) (by omega) (by omega), zo (a0 + 8) (by omega) (by omega)]; exact hw8
    | succ t ih =>
      intro c X hc hX hX0 hlv hw6 hw8 hw7
      have xa : ∀ a, a = a1 ∨ a = a1 + 1 ∨ a = a1 + 3 ∨ a = a1 + 4 → X a = I a := fun a h => hX a (by omega) (by omega) (by omega) (by omega) (by omega) (by omega)
      have xN : X a1 1 = (N : Int) := by rw [xa a1 (Or.inl rfl)]; exact hN
      obtain ⟨_, c2, _⟩ := c_div (c := c) (by omega)
      -- calls of fillRing
      have fill : ∀ (Y : Nat → Nat → Int) (w : Bool), stF a0 I Y → Y a0 = I a0 → ∃ J, Ca (d + 21) mX3_fillRing [vR (some (14, 0, a0)), vR (some (16, 0, a1)), vI (Y (a1 + 1) (c : Int).toNat), vI (if w = true then (1 : Int) else 0)] (Y, S) (.inl (some (vI (if lpE ed jn F V w (cd c) = true then 1 else 0)))) (J, S) ∧ ∀ a, a ≠ a0 + 4 → J a = Y a := fun Y w hY hY0 => by
        have ya : ∀ a, a = a1 ∨ a = a1 + 1 ∨ a = a1 + 3 ∨ a = a1 + 4 → Y a = I a := fun a h => hY a (by omega) (by omega) (by omega) (by omega) (by omega) (by omega)
        have hEY : cEd Y a0 V ed jn := by
          unfold cEd
          rw [hY0, hY (a0 + 2) (by omega) (by omega) (by omega) (by omega) (by omega) (by omega), hY (a0 + 3) (by omega) (by omega) (by omega) (by omega) (by omega) (by omega)]
          exact hE
        obtain ⟨J, q1, q2, _⟩ := fr_C (d := d + 1) (I := Y) (S := S) (code := cd c) (w := w) hl0 hl1 hEY (by rw [hY0]; exact hF) (by rw [ya a1 (Or.inl rfl)]; exact hF1) hF7 hV a04.1
        refine ⟨J, ?_, q2⟩
        rw [ya (a1 + 1) (by omega), Int.toNat_natCast, hcd c (by omega)]
        exact q1
      obtain ⟨J1, hc1, hf1⟩ := fill X false hX hX0
      rw [← hE0c] at hc1
      have hc1 : Ca (d + 21) mX3_fillRing [vR (some (14, 0, a0)), vR (some (16, 0, a1)), vI (X (a1 + 1) (c : Int).toNat), vI 0] (X, S) (.inl (some (vI (if E0 c = true then 1 else 0)))) (J1, S) := hc1
      -- the heap behind the level
      obtain ⟨X1, hX1⟩ : ∃ X1, X1 = up2 J1 (a0 + 5) ((c : Int).toNat) (p_i2b (p_i2b (if ¬(E0 c = true) then ((-1) : Int) else 0))) := ⟨_, rfl⟩
      have hval : p_i2b (p_i2b (if ¬(E0 c = true) then ((-1) : Int) else 0)) = if E0 c = true then 0 else -1 := by
        cases E0 c
        · exact i2b_m1
        · exact i2b_small (by decide)
      have x1o : ∀ a, a ≠ a0 + 4 → a ≠ a0 + 5 → X1 a = X a := fun a q4 q5 => by rw [hX1]; funext j; rw [up2_a _ q5, hf1 a q4]
      have x15 : ∀ i, X1 (a0 + 5) i = if i = c then (if E0 c = true then 0 else -1) else X (a0 + 5) i := fun i => by
        rw [hX1, hval, Int.toNat_natCast]
        by_cases e : i = c
        · rw [if_pos e, e, up2_same]
        · rw [if_neg e, up2_k _ e, hf1 (a0 + 5) (by omega)]
      obtain ⟨X2, hX2⟩ : ∃ X2, X2 = up2 X1 (a0 + 6) ((p_shr (c : Int) 5).toNat) (p_or (X1 (a0 + 6) (p_shr (c : Int) 5).toNat) (p_shl 1 (p_and (c : Int) 31))) := ⟨_, rfl⟩
      -- behind both sets
      have half : ∀ Y : Nat → Nat → Int, (∀ a, a ≠ a0 + 4 → a ≠ a0 + 5 → a ≠ a0 + 6 → Y a = X a) → (∀ i, i < c + 1 → Y (a0 + 5) i = if E0 i = true then 0 else -1) → wdO (Y (a0 + 6)) E0 (c + 1) → stF a0 I Y ∧ Y a0 = I a0 ∧ ∀ Z : Nat → Nat → Int, (∀ a, a ≠ a0 + 4 → a ≠ a0 + 8 → Z a = Y a) → wdO (Z (a0 + 8)) E1 (c + 1) → ∃ (J : Nat → Nat → Int) (g : Nat → Int), L_X3_study_26 d a0 a1 ((c : Int) + 1) Z S (J, S) ∧ stF a0 I J ∧ (∀ i, i ≠ 9 → i ≠ 14 → J a0 i = I a0 i) ∧ J a0 9 = 1 ∧ (∀ i, i < N → g i = if E0 i = true then 0 else -1) ∧ J (a0 + 5) = lvF (ledC (I (a1 + 3)) (I (a1 + 4)) I) N N 1 g ∧ J a0 14 = lvL (ledC (I (a1 + 3)) (I (a1 + 4)) I) N N 1 g ∧ wdO (J (a0 + 6)) E0 N ∧ wdO (J (a0 + 7)) (fun i => decide (J (a0 + 5) i = -1)) N ∧ wdO (J (a0 + 8)) E1 N := fun Y yo yl y6 => by
        have hYF : stF a0 I Y := fun a q0 q4 q5 q6 q7 q8 => by rw [yo a q4 q5 q6]; exact hX a q0 q4 q5 q6 q7 q8
        have hY0 : Y a0 = I a0 := by rw [yo a0 (by omega) (by omega) (by omega)]; exact hX0
        refine ⟨hYF, hY0, fun Z zo z8 => ?_⟩
        exact ih (c + 1) Z (by omega) (fun a q0 q4 q5 q6 q7 q8 => by rw [zo a q4 q8]; exact hYF a q0 q4 q5 q6 q7 q8) (by rw [zo a0 (by omega) (by omega)]; exact hY0) (fun i hi => by rw [zo (a0 + 5) (by omega) (by omega)]; exact yl i hi) (by rw [zo (a0 + 6) (by omega) (by omega)]; exact y6) z8 (fun w hw => by rw [zo (a0 + 7) (by omega) (by omega), yo (a0 + 7) (by omega) (by omega) (by omega)]; exact hw7 w hw)
      have lev1 : ∀ i, i < c + 1 → X1 (a0 + 5) i = if E0 i = true then 0 else -1 := fun i hi => by
        rw [x15]
        by_cases e : i = c
        · rw [if_pos e, e]
        · rw [if_neg e]; exact hlv i (by omega)
      by_cases hz1 : E0 c = true
      · have x2o : ∀ a, a ≠ a0 + 4 → a ≠ a0 + 5 → a ≠ a0 + 6 → X2 a = X a := fun a q4 q5 q6 => by rw [hX2]; funext j; rw [up2_a _ q6, x1o a q4 q5]
        obtain ⟨hYF, hY0, go⟩ := half X2 x2o (fun i hi => by rw [hX2, up2_a _ (by omega)]; exact lev1 i hi) (by
          rw [hX2, up2_up1, up1_same]
          refine wdO_inc (by omega) ?_ hz1
          rw [x1o (a0 + 6) (by omega) (by omega)]; exact hw6)
        have x28 : X2 (a0 + 8) = X (a0 + 8) := x2o _ (by omega) (by omega) (by omega)
        by_cases hj : 0 < I a0 6
        · obtain ⟨J3, hc3, hf3⟩ := fill X2 true hYF hY0
          have hc3 : Ca (d + 21) mX3_fillRing [vR (some (14, 0, a0)), vR (some (16, 0, a1)), vI (X2 (a1 + 1) (c : Int).toNat), vI 1] (X2, S) (.inl (some (vI (if lpE ed jn F V true (cd c) = true then 1 else 0)))) (J3, S) := hc3
          have hEc : E1 c = lpE ed jn F V true (cd c) := by rw [hE1c, decide_eq_true hj, Bool.true_and]
          by_cases hz3 : lpE ed jn F V true (cd c) = true
          · obtain ⟨J, g, hL, rest⟩ := go (up2 J3 (a0 + 8) ((p_shr (c : Int) 5).toNat) (p_or (J3 (a0 + 8) (p_shr (c : Int) 5).toNat) (p_shl 1 (p_and (c : Int) 31)))) (fun a q4 q8 => by funext j; rw [up2_a _ q8, hf3 a q4]) (by
              rw [up2_up1, up1_same]
              refine wdO_inc (by omega) ?_ (by rw [hEc]; exact hz3)
              rw [hf3 (a0 + 8) (by omega), x28]; exact hw8)
            rw [hX2, hX1] at hc3
            exact ⟨J, g, w_X3_study_26 (J1 := J1) (J2 := J1) (J3 := J3) (z1 := E0 c) (z2 := true) (z3 := lpE ed jn F V true (cd c)) hl0 hl1 (fun h => absurd h (by omega)) (fun _ => hc1) (fun _ h => absurd hz1 h) (fun _ h => absurd hz1 h) (fun _ h => absurd hz1 h) (fun _ h => absurd hz1 h) (fun _ _ h => absurd h (by rw [← hX1, ← hX2, hY0]; omega)) (fun _ _ _ => hc3) (fun _ _ _ h => absurd hz3 h) (fun _ _ _ _ => hL) (v4 := fun _ h => absurd hz1 h) (v6 := fun _ _ => c2), rest⟩
          · obtain ⟨J, g, hL, rest⟩ := go J3 (fun a q4 _ => hf3 a q4) (by
              rw [hf3 (a0 + 8) (by omega), x28]
              exact wdO_no hw8 (by rw [hEc]; exact Bool.eq_false_iff.mpr hz3))
            rw [hX2, hX1] at hc3
            exact ⟨J, g, w_X3_study_26 (J1 := J1) (J2 := J1) (J3 := J3) (z1 := E0 c) (z2 := true) (z3 := lpE ed jn F V true (cd c)) hl0 hl1 (fun h => absurd h (by omega)) (fun _ => hc1) (fun _ h => absurd hz1 h) (fun _ h => absurd hz1 h) (fun _ h => absurd hz1 h) (fun _ h => absurd hz1 h) (fun _ _ h => absurd h (by rw [← hX1, ← hX2, hY0]; omega)) (fun _ _ _ => hc3) (fun _ _ _ _ => hL) (fun _ _ _ h => absurd h hz3) (v4 := fun _ h => absurd hz1 h) (v6 := fun _ _ => c2), rest⟩
        · obtain ⟨J, g, hL, rest⟩ := go X2 (fun _ _ _ => rfl) (by
            rw [x28]
            exact wdO_no hw8 (by rw [hE1c, decide_eq_false hj, Bool.false_and]))
          rw [hX2, hX1] at hL
          exact ⟨J, g, w_X3_study_26 (J1 := J1) (J2 := J1) (J3 := J1) (z1 := E0 c) (z2 := true) (z3 := true) hl0 hl1 (fun h => absurd h (by omega)) (fun _ => hc1) (fun _ h => absurd hz1 h) (fun _ h => absurd hz1 h) (fun _ h => absurd hz1 h) (fun _ h => absurd hz1 h) (fun _ _ _ => hL) (fun _ _ h => absurd h (by rw [← hX1, ← hX2, hY0]; omega)) (fun _ _ h => absurd h (by rw [← hX1, ← hX2, hY0]; omega)) (fun _ _ h => absurd h (by rw [← hX1, ← hX2, hY0]; omega)) (v4 := fun _ h => absurd hz1 h) (v6 := fun _ _ => c2), rest⟩
      · obtain ⟨hYF, hY0, go⟩ := half X1 (fun a q4 q5 _ => x1o a q4 q5) lev1 (by
          rw [x1o (a0 + 6) (by omega) (by omega)]
          exact wdO_no hw6 (Bool.eq_false_iff.mpr hz1))
        have x18 : X1 (a0 + 8) = X (a0 + 8) := x1o _ (by omega) (by omega)
        by_cases hj : 0 < I a0 6
        · obtain ⟨J2, hc2, hf2⟩ := fill X1 true hYF hY0
          have hc2 : Ca (d + 21) mX3_fillRing [vR (some (14, 0, a0)), vR (some (16, 0, a1)), vI (X1 (a1 + 1) (c : Int).toNat), vI 1] (X1, S) (.inl (some (vI (if lpE ed jn F V true (cd c) = true then 1 else 0)))) (J2, S) := hc2
          have hEc : E1 c = lpE ed jn F V true (cd c) := by rw [hE1c, decide_eq_true hj, Bool.true_and]
          by_cases hz3 : lpE ed jn F V true (cd c) = true
          · obtain ⟨J, g, hL, rest⟩ := go (up2 J2 (a0 + 8) ((p_shr (c : Int) 5).toNat) (p_or (J2 (a0 + 8) (p_shr (c : Int) 5).toNat) (p_shl 1 (p_and (c : Int) 31)))) (fun a q4 q8 => by funext j; rw [up2_a _ q8, hf2 a q4]) (by
              rw [up2_up1, up1_same]
              refine wdO_inc (by omega) ?_ (by rw [hEc]; exact hz3)
              rw [hf2 (a0 + 8) (by omega), x18]; exact hw8)
            rw [hX1] at hc2
            exact ⟨J, g, w_X3_study_26 (J1 := J1) (J2 := J2) (J3 := J1) (z1 := E0 c) (z2 := lpE ed jn F V true (cd c)) (z3 := true) hl0 hl1 (fun h => absurd h (by omega)) (fun _ => hc1) (fun _ _ h => absurd h (by rw [← hX1, hY0]; omega)) (fun _ _ _ => hc2) (fun _ _ _ h => absurd hz3 h) (fun _ _ _ _ => hL) (fun _ h => absurd h hz1) (fun _ h => absurd h hz1) (fun _ h => absurd h hz1) (fun _ h => absurd h hz1) (v4 := fun _ _ _ _ => c2) (v6 := fun _ h => absurd h hz1), rest⟩
          · obtain ⟨J, g, hL, rest⟩ := go J2 (fun a q4 _ => hf2 a q4) (by
              rw [hf2 (a0 + 8) (by omega), x18]
              exact wdO_no hw8 (by rw [hEc]; exact Bool.eq_false_iff.mpr hz3))
            rw [hX1] at hc2
            exact ⟨J, g, w_X3_study_26 (J1 := J1) (J2 := J2) (J3 := J1) (z1 := E0 c) (z2 := lpE ed jn F V true (cd c)) (z3 := true) hl0 hl1 (fun h => absurd h (by omega)) (fun _ => hc1) (fun _ _ h => absurd h (by rw [← hX1, hY0]; omega)) (fun _ _ _ => hc2) (fun _ _ _ _ => hL) (fun _ _ _ h => absurd h hz3) (fun _ h => absurd h hz1) (fun _ h => absurd h hz1) (fun _ h => absurd h hz1) (fun _ h => absurd h hz1) (v4 := fun _ _ _ h => absurd h hz3) (v6 := fun _ h => absurd h hz1), rest⟩
        · obtain ⟨J, g, hL, rest⟩ := go X1 (fun _ _ _ => rfl) (by
            rw [x18]
            exact wdO_no hw8 (by rw [hE1c, decide_eq_false hj, Bool.false_and]))
          rw [hX1] at hL
          exact ⟨J, g, w_X3_study_26 (J1 := J1) (J2 := J1) (J3 := J1) (z1 := E0 c) (z2 := true) (z3 := true) hl0 hl1 (fun h => absurd h (by omega)) (fun _ => hc1) (fun _ _ _ => hL) (fun _ _ h => absurd h (by rw [← hX1, hY0]; omega)) (fun _ _ h => absurd h (by rw [← hX1, hY0]; omega)) (fun _ _ h => absurd h (by rw [← hX1, hY0]; omega)) (fun _ h => absurd h hz1) (fun _ h => absurd h hz1) (fun _ h => absurd h hz1) (fun _ h => absurd h hz1) (v4 := fun _ _ h => absurd h (by rw [← hX1, hY0]; omega)) (v6 := fun _ h => absurd h hz1), rest⟩
  obtain ⟨W, hW⟩ : ∃ W, W = up1 (up1 (up1 I (a0 + 6) (upTo (I (a0 + 6)) (fun _ => 0) 0 3)) (a0 + 7) (upTo ((up1 I (a0 + 6) (upTo (I (a0 + 6)) (fun _ => 0) 0 3)) (a0 + 7)) (fun _ => 0) 0 3)) (a0 + 8) (upTo ((up1 (up1 I (a0 + 6) (upTo (I (a0 + 6)) (fun _ => 0) 0 3)) (a0 + 7) (upTo ((up1 I (a0 + 6) (upTo (I (a0 + 6)) (fun _ => 0) 0 3)) (a0 + 7)) (fun _ => 0) 0 3)) (a0 + 8)) (fun _ => 0) 0 3) := ⟨_, rfl⟩
  have z6 : ∀ w, w < 3 → W (a0 + 6) w = 0 := fun w hw => by rw [hW, up1_o _ (by omega), up1_o _ (by omega), up1_same, upTo_in (by omega)]
  have z7 : ∀ w, w < 3 → W (a0 + 7) w = 0 := fun w hw => by rw [hW, up1_o _ (by omega), up1_same, upTo_in (by omega)]
  have z8 : ∀ w, w < 3 → W (a0 + 8) w = 0 := fun w hw => by rw [hW, up1_same, upTo_in (by omega)]
  have wo : ∀ a, a ≠ a0 + 6 → a ≠ a0 + 7 → a ≠ a0 + 8 → W a = I a := fun a q6 q7 q8 => by rw [hW, up1_o _ q8, up1_o _ q7, up1_o _ q6]
  obtain ⟨J, g, hL, r1, r2, r3, r4, rest⟩ := loop N 0 W (by omega) (fun a _ _ _ q6 q7 q8 => wo a q6 q7 q8) (wo a0 (by omega) (by omega) (by omega)) (fun i hi => absurd hi (by omega)) (wdO_zero z6) (wdO_zero z8) z7
  rw [hW] at hL
  exact ⟨J, g, w_X3_study_0 hl0 hl1 hL, r1, r2, r3, fun i hi => by rw [← hE0c i]; exact r4 i hi, rest⟩
end
end
