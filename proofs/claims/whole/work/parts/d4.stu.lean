/-! ===== a piece is studied, the class's ===== -/
noncomputable section
/-- sets of colourings as words -/
def wdO (f : Nat → Int) (P : Nat → Bool) (c : Nat) : Prop := ∀ w, w < 3 → isI (f w) ∧ ∀ k, k < 32 → bt (f w) k = (P (32 * w + k) && decide (32 * w + k < c))
theorem c_div {c : Nat} (h : c < 96) : (p_shr (c : Int) 5).toNat = c / 32 ∧ (0 ≤ p_shr (c : Int) 5 ∧ p_shr (c : Int) 5 < (3 : Nat)) ∧ p_and (c : Int) 31 = ((c % 32 : Nat) : Int) := by
  have : ∀ c : Fin 96, (p_shr (c.val : Int) 5).toNat = c.val / 32 ∧ (0 ≤ p_shr (c.val : Int) 5 ∧ p_shr (c.val : Int) 5 < (3 : Nat)) ∧ p_and (c.val : Int) 31 = ((c.val % 32 : Nat) : Int) := by decide +kernel
  exact this ⟨c, h⟩
theorem wdO_zero {f : Nat → Int} {P : Nat → Bool} (h : ∀ w, w < 3 → f w = 0) : wdO f P 0 := fun w hw => by
  rw [h w hw]
  exact ⟨⟨by decide, by decide⟩, fun k _ => by rw [bt_zero, decide_eq_false (by omega), Bool.and_false]⟩
theorem wdO_no {f : Nat → Int} {P : Nat → Bool} {c : Nat} (h : wdO f P c) (hP : P c = false) : wdO f P (c + 1) := fun w hw => by
  refine ⟨(h w hw).1, fun k hk => ?_⟩
  rw [(h w hw).2 k hk]
  by_cases e : 32 * w + k = c
  · rw [e, hP, Bool.false_and, Bool.false_and]
  · congr 1
    by_cases q : 32 * w + k < c
    · rw [decide_eq_true q, decide_eq_true (by omega)]
    · rw [decide_eq_false q, decide_eq_false (by omega)]
theorem wdO_yes {f : Nat → Int} {P : Nat → Bool} {c : Nat} (hc : c < 96) (h : wdO f P c) (hP : P c = true) : wdO (up1 f (c / 32) (p_or (f (c / 32)) (p_shl 1 ((c % 32 : Nat) : Int)))) P (c + 1) := fun w hw => by
  by_cases ew : w = c / 32
  · rw [ew, up1_same]
    refine ⟨isI_or _ _, fun k hk => ?_⟩
    rw [bt_or, (h (c / 32) (by omega)).2 k hk, bt_bit (by omega), Int.toNat_natCast]
    by_cases e : k = c % 32
    · have e2 : 32 * (c / 32) + k = c := by omega
      rw [e2, decide_eq_true e, Bool.or_true, hP, decide_eq_true (by omega)]; rfl
    · rw [decide_eq_false e, Bool.or_false]
      congr 1
      by_cases q : 32 * (c / 32) + k < c
      · rw [decide_eq_true q, decide_eq_true (by omega)]
      · rw [decide_eq_false q, decide_eq_false (by omega)]
  · rw [up1_o _ ew]
    refine ⟨(h w hw).1, fun k hk => ?_⟩
    rw [(h w hw).2 k hk]
    congr 1
    by_cases q : 32 * w + k < c
    · rw [decide_eq_true q, decide_eq_true (by omega)]
    · rw [decide_eq_false q, decide_eq_false (by omega)]
theorem wdO_inc {f : Nat → Int} {P : Nat → Bool} {c : Nat} (hc : c < 96) (h : wdO f P c) (hP : P c = true) : wdO (up1 f (p_shr (c : Int) 5).toNat (p_or (f (p_shr (c : Int) 5).toNat) (p_shl 1 (p_and (c : Int) 31)))) P (c + 1) := by
  obtain ⟨h1, _, h3⟩ := c_div hc
  rw [h1, h3]
  exact wdO_yes hc h hP
/-- the last round in which something changed -/
def lvL (led : Int → (Nat → Int) → Nat → Bool) (n : Nat) : Nat → Int → (Nat → Int) → Int
  | 0, rd, _ => rd - 1
  | k + 1, rd, f => if lvC (led rd) rd n f = true then lvL led n k (rd + 1) (lvR (led rd) rd n f) else rd - 1
theorem lvR_same {led : (Nat → Int) → Nat → Bool} {rd : Int} {f : Nat → Int} : ∀ {c : Nat}, lvC led rd c f = false → lvR led rd c f = f
  | 0, _ => rfl
  | c + 1, h => by
    have h : (lvC led rd c f || decide (lvR led rd c f c = -1 ∧ led (lvR led rd c f) c = true)) = false := h
    obtain ⟨h1, h2⟩ := Bool.or_eq_false_iff.mp h
    unfold lvR
    rw [if_neg (of_decide_eq_false h2)]
    exact lvR_same h1
section
variable {d : Nat} {I : Nat → Nat → Int} {S : PS}
/-- rounds of levels -/
theorem sr_C {a0 a1 N : Nat} {rcn bc : Nat → Int} {sw : Nat → Nat → Int} {h1 : PM} (hl0 : LyX3 S a0) (hl1 : LyX6 S a1) (ha : a0 + 5 ≠ a1 ∧ a0 + 5 ≠ a1 + 3 ∧ a0 + 5 ≠ a1 + 4 ∧ 31 ≤ a0) (hb : a0 ≠ a1 ∧ a0 ≠ a1 + 3 ∧ a0 ≠ a1 + 4) : ∀ (k : Nat) (rd : Int) (X : Nat → Nat → Int), rd + (k : Int) = (N : Int) + 1 → 1 ≤ rd → rgO X S a1 N → X (a1 + 3) = rcn → X (a1 + 4) = bc → (∀ j, j < 4 → X j = sw j) → X a0 14 = rd - 1 → (L_X3_study_148 d a0 a1 0 (up2 (up1 X (a0 + 5) (lvF (ledC rcn bc sw) N k rd (X (a0 + 5)))) a0 14 (lvL (ledC rcn bc sw) N k rd (X (a0 + 5)))) S h1) → L_X3_study_118 d a0 a1 rd X S h1 := by
  intro k
  induction k with
  | zero =>
    intro rd X hk hrd hR hr hbc hsw h14 hL
    have h1N := hR.1
    refine w_X3_study_118 (J1 := X) (z1 := true) hl0 hl1 (fun _ => ?_) (fun h => absurd h (by omega)) (fun h => absurd h (by omega)) (fun h => absurd h (by omega))
    have e : up2 (up1 X (a0 + 5) (lvF (ledC rcn bc sw) N 0 rd (X (a0 + 5)))) a0 14 (lvL (ledC rcn bc sw) N 0 rd (X (a0 + 5))) = X := by
      show up2 (up1 X (a0 + 5) (X (a0 + 5))) a0 14 (rd - 1) = X
      rw [up1_self, ← h14, up2_self]
    rw [e] at hL
    exact hL
  | succ k ih =>
    intro rd X hk hrd hR hr hbc hsw h14 hL
    have h1N := hR.1
    have h91 := hR.2.1
    have hcall := c_X3_addLevel (d := d + 19) (I := X) (S := S) (N := N) (x2 := rd) hl0 hl1 hR (by omega) ha
    have hled : ∀ (f : Nat → Int), lvC (ledC (X (a1 + 3)) (X (a1 + 4)) X rd) rd N f = lvC (ledC rcn bc sw rd) rd N f ∧ lvR (ledC (X (a1 + 3)) (X (a1 + 4)) X rd) rd N f = lvR (ledC rcn bc sw rd) rd N f := by
      have e : ledC (X (a1 + 3)) (X (a1 + 4)) X rd = ledC rcn bc sw rd := by
        funext f c
        rw [hr, hbc]
        unfold ledC
        exact anyB_congr (fun q _ => lbA_congr hsw)
      intro f
      rw [e]
      exact ⟨rfl, rfl⟩
    rw [(hled _).1, (hled _).2] at hcall
    have hF : lvF (ledC rcn bc sw) N (k + 1) rd (X (a0 + 5)) = if lvC (ledC rcn bc sw rd) rd N (X (a0 + 5)) = true then lvF (ledC rcn bc sw) N k (rd + 1) (lvR (ledC rcn bc sw rd) rd N (X (a0 + 5))) else lvR (ledC rcn bc sw rd) rd N (X (a0 + 5)) := rfl
    have hLl : lvL (ledC rcn bc sw) N (k + 1) rd (X (a0 + 5)) = if lvC (ledC rcn bc sw rd) rd N (X (a0 + 5)) = true then lvL (ledC rcn bc sw) N k (rd + 1) (lvR (ledC rcn bc sw rd) rd N (X (a0 + 5))) else rd - 1 := rfl
    by_cases hch : lvC (ledC rcn bc sw rd) rd N (X (a0 + 5)) = true
    · rw [if_pos hch] at hF hLl
      rw [hch] at hcall
      refine w_X3_study_118 (J1 := up1 X (a0 + 5) (lvR (ledC rcn bc sw rd) rd N (X (a0 + 5)))) (z1 := true) hl0 hl1 (fun h => absurd h (by omega)) (fun _ => hcall) (fun _ h => absurd rfl h) (fun _ _ => ?_)
      obtain ⟨Y, hY⟩ : ∃ Y, Y = up2 (up1 X (a0 + 5) (lvR (ledC rcn bc sw rd) rd N (X (a0 + 5)))) a0 14 rd := ⟨_, rfl⟩
      rw [← hY]
      have yo : ∀ a, a ≠ a0 + 5 → a ≠ a0 → Y a = X a := fun a q1 q2 => by rw [hY]; funext j; rw [up2_a _ q2, up1_o _ q1]
      have y5 : Y (a0 + 5) = lvR (ledC rcn bc sw rd) rd N (X (a0 + 5)) := by rw [hY]; funext j; rw [up2_a _ (by omega), up1_same]
      refine ih (rd + 1) Y (by omega) (by omega) ?_ (by rw [yo _ (Ne.symm ha.2.1) (Ne.symm hb.2.1)]; exact hr) (by rw [yo _ (Ne.symm ha.2.2.1) (Ne.symm hb.2.2)]; exact hbc) (fun j hj => by rw [yo j (by omega) (by omega)]; exact hsw j hj) (by rw [hY, up2_same]; omega) ?_
      · unfold rgO
        rw [yo _ (Ne.symm ha.1) (Ne.symm hb.1), yo _ (Ne.symm ha.2.2.1) (Ne.symm hb.2.2)]
        refine ⟨h1N, h91, hR.2.2.1, fun j i hj1 hj => ?_, hR.2.2.2.2⟩
        rw [yo j (by omega) (by omega)]
        exact hR.2.2.2.1 j i hj1 hj
      · have e : up2 (up1 Y (a0 + 5) (lvF (ledC rcn bc sw) N k (rd + 1) (Y (a0 + 5)))) a0 14 (lvL (ledC rcn bc sw) N k (rd + 1) (Y (a0 + 5))) = up2 (up1 X (a0 + 5) (lvF (ledC rcn bc sw) N (k + 1) rd (X (a0 + 5)))) a0 14 (lvL (ledC rcn bc sw) N (k + 1) rd (X (a0 + 5))) := by
          rw [y5, ← hF, ← hLl]
          funext a j
          by_cases q : a = a0 ∧ j = 14
          · obtain ⟨rfl, rfl⟩ := q; rw [up2_same, up2_same]
          · rw [up2_f q, up2_f q]
            by_cases q5 : a = a0 + 5
            · rw [q5, up1_same, up1_same]
            · rw [up1_o _ q5, up1_o _ q5, hY, up2_f q, up1_o _ q5]
        rw [e]
        exact hL
    · rw [if_neg hch] at hF hLl
      rw [Bool.eq_false_iff.mpr hch] at hcall
      refine w_X3_study_118 (J1 := up1 X (a0 + 5) (lvR (ledC rcn bc sw rd) rd N (X (a0 + 5)))) (z1 := false) hl0 hl1 (fun h => absurd h (by omega)) (fun _ => hcall) (fun _ _ => ?_) (fun _ h => absurd h (by decide))
      rw [hF, hLl] at hL
      have e : up2 (up1 X (a0 + 5) (lvR (ledC rcn bc sw rd) rd N (X (a0 + 5)))) a0 14 (rd - 1) = up1 X (a0 + 5) (lvR (ledC rcn bc sw rd) rd N (X (a0 + 5))) := by
        have : (up1 X (a0 + 5) (lvR (ledC rcn bc sw rd) rd N (X (a0 + 5)))) a0 14 = rd - 1 := by rw [up1_o _ (by omega)]; exact h14
        rw [← this, up2_self]
      rw [e] at hL
      exact hL
/-- those without a level -/
theorem sb_C {a0 a1 N : Nat} (hl0 : LyX3 S a0) (hl1 : LyX6 S a1) (h91 : N ≤ 91) (ha : a0 + 7 ≠ a1) : ∀ (t c : Nat) (X : Nat → Nat → Int), c + t = N → X a1 1 = (N : Int) → wdO (X (a0 + 7)) (fun i => decide (X (a0 + 5) i = -1)) c → ∃ J, L_X3_study_148 d a0 a1 (c : Int) X S (J, S) ∧ (∀ a, a ≠ a0 + 7 → a ≠ a0 → J a = X a) ∧ (∀ i, i ≠ 9 → J a0 i = X a0 i) ∧ J a0 9 = 1 ∧ wdO (J (a0 + 7)) (fun i => decide (X (a0 + 5) i = -1)) N := by
  intro t
  induction t with
  | zero =>
    intro c X hc h1 hw
    have hcN : c = N := by omega
    subst hcN
    exact ⟨up2 X a0 9 1, w_X3_study_148 hl0 hl1 (fun h => absurd h (by omega)) (fun h => absurd h (by omega)) (e1 := fun _ => rfl), fun a _ q2 => by funext j; rw [up2_a _ q2], fun i hi => by rw [up2_k _ hi], up2_same _ _ _ _, by
      have : up2 X a0 9 1 (a0 + 7) = X (a0 + 7) := by funext j; rw [up2_a _ (by omega)]
      rw [this]; exact hw⟩
  | succ t ih =>
    intro c X hc h1 hw
    obtain ⟨c1, c2, c3⟩ := c_div (c := c) (by omega)
    by_cases hl : X (a0 + 5) c = -1
    · obtain ⟨J, hL, g1, g2, g3, g4⟩ := ih (c + 1) (up2 X (a0 + 7) ((p_shr (c : Int) 5).toNat) (p_or (X (a0 + 7) (p_shr (c : Int) 5).toNat) (p_shl 1 (p_and (c : Int) 31)))) (by omega) (by rw [up2_a _ (Ne.symm ha)]; exact h1) (by
        have e5 : ∀ v, up2 X (a0 + 7) ((p_shr (c : Int) 5).toNat) v (a0 + 5) = X (a0 + 5) := fun v => by funext j; rw [up2_a _ (by omega)]
        rw [e5, up2_up1, up1_same]
        exact wdO_inc (by omega) hw (decide_eq_true hl))
      have e5 : ∀ v, up2 X (a0 + 7) ((p_shr (c : Int) 5).toNat) v (a0 + 5) = X (a0 + 5) := fun v => by funext j; rw [up2_a _ (by omega)]
      rw [e5] at g4
      exact ⟨J, w_X3_study_148 hl0 hl1 (fun _ h => absurd (by rw [Int.toNat_natCast]; exact hl) h) (fun _ _ => hL) (e1 := fun h => absurd h (by omega)) (v3 := fun _ _ => c2), fun a q1 q2 => by rw [g1 a q1 q2]; funext j; rw [up2_a _ q1], fun i hi => by rw [g2 i hi, up2_a _ (by omega)], g3, g4⟩
    · obtain ⟨J, hL, rest⟩ := ih (c + 1) X (by omega) h1 (wdO_no hw (decide_eq_false hl))
      exact ⟨J, w_X3_study_148 hl0 hl1 (fun _ _ => hL) (fun _ h => absurd (by rw [Int.toNat_natCast] at h; exact h) hl) (e1 := fun h => absurd h (by omega)) (v3 := fun _ h => absurd (by rw [Int.toNat_natCast] at h; exact h) hl), rest⟩
end
end
