/-! ===== names: the class's are the reference's ===== -/
noncomputable section
theorem bt_3 {i : Nat} (hi : i < 32) : bt 3 i = decide (i < 2) := by
  have : ∀ j : Fin 32, bt 3 j.val = decide (j.val < 2) := by decide
  exact this ⟨i, hi⟩
theorem nm_get {x v : Int} {c : Nat} (hc : c < 4) (hv : 0 ≤ v ∧ v < 4) (h0 : bt x (2 * c) = bt v 0) (h1 : bt x (2 * c + 1) = bt v 1) : p_and (p_shr x (2 * (c : Int))) 3 = v := by
  refine bt_ext (isI_and _ _) ⟨by omega, by omega⟩ (fun i hi => ?_)
  rw [bt_and, bt_3 hi]
  by_cases h2 : i < 2
  · rw [decide_eq_true h2, Bool.and_true, bt_shr (by omega) (by omega), show (2 * (c : Int)).toNat = 2 * c by omega]
    have : i = 0 ∨ i = 1 := by omega
    rcases this with rfl | rfl
    · exact h0
    · exact h1
  · rw [decide_eq_false h2, Bool.and_false, bt_of_small (n := 2) (by decide) hv (by omega)]
/-- how many colours have names -/
def nmT (f : Nat → Int) : Int := (if f 0 ≠ -1 then 1 else 0) + (if f 1 ≠ -1 then 1 else 0) + (if f 2 ≠ -1 then 1 else 0) + (if f 3 ≠ -1 then 1 else 0)
theorem nmT_in {f : Nat → Int} {c : Nat} (hc : c < 4) (h : f c = -1) : 0 ≤ nmT f ∧ nmT f ≤ 3 := by
  unfold nmT
  have : c = 0 ∨ c = 1 ∨ c = 2 ∨ c = 3 := by omega
  rcases this with rfl | rfl | rfl | rfl
  · rw [if_neg (fun q => q h)]
    refine ⟨?_, ?_⟩ <;> (split <;> split <;> split <;> omega)
  · rw [if_neg (show ¬(f 1 ≠ -1) from fun q => q h)]
    refine ⟨?_, ?_⟩ <;> (split <;> split <;> split <;> omega)
  · rw [if_neg (show ¬(f 2 ≠ -1) from fun q => q h)]
    refine ⟨?_, ?_⟩ <;> (split <;> split <;> split <;> omega)
  · rw [if_neg (show ¬(f 3 ≠ -1) from fun q => q h)]
    refine ⟨?_, ?_⟩ <;> (split <;> split <;> split <;> omega)
theorem nmT_up {f : Nat → Int} {c : Nat} {v : Int} (hc : c < 4) (h : f c = -1) (hv : v ≠ -1) : nmT (up1 f c v) = nmT f + 1 := by
  unfold nmT
  have : c = 0 ∨ c = 1 ∨ c = 2 ∨ c = 3 := by omega
  rcases this with rfl | rfl | rfl | rfl
  · rw [up1_same, up1_o _ (show 1 ≠ 0 by decide), up1_o _ (show 2 ≠ 0 by decide), up1_o _ (show 3 ≠ 0 by decide), if_pos hv, if_neg (show ¬(f 0 ≠ -1) from fun q => q h)]; omega
  · rw [up1_same, up1_o _ (show 0 ≠ 1 by decide), up1_o _ (show 2 ≠ 1 by decide), up1_o _ (show 3 ≠ 1 by decide), if_pos hv, if_neg (show ¬(f 1 ≠ -1) from fun q => q h)]; omega
  · rw [up1_same, up1_o _ (show 0 ≠ 2 by decide), up1_o _ (show 1 ≠ 2 by decide), up1_o _ (show 3 ≠ 2 by decide), if_pos hv, if_neg (show ¬(f 2 ≠ -1) from fun q => q h)]; omega
  · rw [up1_same, up1_o _ (show 0 ≠ 3 by decide), up1_o _ (show 1 ≠ 3 by decide), up1_o _ (show 2 ≠ 3 by decide), if_pos hv, if_neg (show ¬(f 3 ≠ -1) from fun q => q h)]; omega
def nmV (f : Nat → Int) (packed known : Int) : Prop := (∀ c : Nat, c < 4 → f c = -1 ∨ (0 ≤ f c ∧ f c < 4)) ∧ (∀ c : Nat, c < 4 → bt known c = decide (f c ≠ -1)) ∧ ∀ c b : Nat, c < 4 → b < 2 → bt packed (2 * c + b) = (decide (f c ≠ -1) && bt (f c) b)
theorem rn_nm (r code : Int) : ∀ k : Nat, (rnS r code k).2.2.2 = (nmS r code k).1 ∧ (rnS r code k).2.2.1 = (nmS r code k).2.1 ∧ (nmS r code k).2.1 = nmT (nmS r code k).2.2 ∧ nmV (nmS r code k).2.2 (rnS r code k).1 (rnS r code k).2.1
  | 0 => ⟨rfl, rfl, rfl, fun c _ => Or.inl rfl, fun c _ => by show bt 0 c = _; rw [bt_zero]; rfl, fun c b _ _ => by show bt 0 _ = _; rw [bt_zero]; rfl⟩
  | k + 1 => by
    obtain ⟨h1, h2, h3, h4, h5, h6⟩ := rn_nm r code k
    have hc := p_and_3 (p_shr code (2 * (r - 1 - (k : Int))))
    have hcA : 0 ≤ cAt r code (k : Int) ∧ cAt r code (k : Int) < 4 := hc
    obtain ⟨c, hcc⟩ := Int.eq_ofNat_of_zero_le hcA.1
    have hc4 : c < 4 := by omega
    have hsN : nmS r code (k + 1) = if (nmS r code k).2.2 (cAt r code k).toNat ≠ -1 then (p_or (p_shl (nmS r code k).1 2) ((nmS r code k).2.2 (cAt r code k).toNat), (nmS r code k).2.1, (nmS r code k).2.2) else (p_or (p_shl (nmS r code k).1 2) (nmS r code k).2.1, (nmS r code k).2.1 + 1, up1 (nmS r code k).2.2 (cAt r code k).toNat (nmS r code k).2.1) := rfl
    have hsR : rnS r code (k + 1) = ((if p_and (p_shr (rnS r code k).2.1 (cAt r code k)) 1 ≠ 0 then ((rnS r code k).1 : Int) else p_or (rnS r code k).1 (p_shl (rnS r code k).2.2.1 (2 * cAt r code k))), (if p_and (p_shr (rnS r code k).2.1 (cAt r code k)) 1 ≠ 0 then ((rnS r code k).2.1 : Int) else p_or (rnS r code k).2.1 (p_shl 1 (cAt r code k))), (if p_and (p_shr (rnS r code k).2.1 (cAt r code k)) 1 ≠ 0 then ((rnS r code k).2.2.1 : Int) else (rnS r code k).2.2.1 + 1), p_or (p_shl (rnS r code k).2.2.2 2) (p_and (p_shr (if p_and (p_shr (rnS r code k).2.1 (cAt r code k)) 1 ≠ 0 then ((rnS r code k).1 : Int) else p_or (rnS r code k).1 (p_shl (rnS r code k).2.2.1 (2 * cAt r code k))) (2 * cAt r code k)) 3)) := rfl
    rw [hcc, Int.toNat_natCast] at hsN
    rw [hcc] at hsR
    have tst := p_tst_ne (x := (rnS r code k).2.1) (s := (c : Int)) (by omega)
    rw [Int.toNat_natCast, h5 c hc4, decide_eq_true_iff] at tst
    by_cases hk : (nmS r code k).2.2 c ≠ -1
    · rw [if_pos hk] at hsN
      rw [if_pos (tst.mpr hk), if_pos (tst.mpr hk), if_pos (tst.mpr hk)] at hsR
      rw [hsN, hsR]
      have hb := (h4 c hc4).resolve_left hk
      have e0 := h6 c 0 hc4 (by decide)
      have e1 := h6 c 1 hc4 (by decide)
      rw [decide_eq_true hk, Bool.true_and] at e0 e1
      refine ⟨?_, h2, h3, h4, h5, h6⟩
      show p_or (p_shl (rnS r code k).2.2.2 2) (p_and (p_shr (rnS r code k).1 (2 * (c : Int))) 3) = p_or (p_shl (nmS r code k).1 2) ((nmS r code k).2.2 c)
      rw [h1, nm_get hc4 hb e0 e1]
    · have hk1 : (nmS r code k).2.2 c = -1 := Classical.byContradiction hk
      rw [if_neg hk] at hsN
      rw [if_neg (fun q => hk (tst.mp q)), if_neg (fun q => hk (tst.mp q)), if_neg (fun q => hk (tst.mp q))] at hsR
      rw [hsN, hsR]
      obtain ⟨nx, hnx⟩ : ∃ nx, nx = (nmS r code k).2.1 := ⟨_, rfl⟩
      rw [← hnx] at h2 h3 ⊢
      have hT := nmT_in hc4 hk1
      rw [← h3] at hT
      have bits : ∀ c' b : Nat, c' < 4 → b < 2 → bt (p_or (rnS r code k).1 (p_shl nx (2 * (c : Int)))) (2 * c' + b) = (decide (up1 (nmS r code k).2.2 c nx c' ≠ -1) && bt (up1 (nmS r code k).2.2 c nx c') b) := by
        intro c' b hc' hb
        rw [bt_or, h6 c' b hc' hb, bt_shl (by omega), show (2 * (c : Int)).toNat = 2 * c by omega, decide_eq_true (show 2 * c' + b < 32 by omega), Bool.true_and]
        by_cases e : c' = c
        · subst e
          rw [up1_same, hk1, decide_eq_false (show ¬((-1 : Int) ≠ -1) from fun q => q rfl), Bool.false_and, Bool.false_or, decide_eq_false (show ¬(2 * c' + b < 2 * c') by omega), Bool.not_false, Bool.true_and, decide_eq_true (show nx ≠ -1 by omega), Bool.true_and, Nat.add_sub_cancel_left]
        · rw [up1_o _ e]
          have : (!decide (2 * c' + b < 2 * c) && bt nx (2 * c' + b - 2 * c)) = false := by
            by_cases q : 2 * c' + b < 2 * c
            · rw [decide_eq_true q]; rfl
            · rw [bt_of_small (n := 2) (by decide) (show 0 ≤ nx ∧ nx < 2 ^ 2 by omega) (by omega), Bool.and_false]
          rw [this, Bool.or_false]
      have e0 := bits c 0 hc4 (by decide)
      have e1 := bits c 1 hc4 (by decide)
      rw [up1_same, decide_eq_true (show nx ≠ -1 by omega), Bool.true_and] at e0 e1
      refine ⟨?_, ?_, ?_, fun c' hc' => ?_, fun c' hc' => ?_, fun c' b hc' hb => ?_⟩
      · show p_or (p_shl (rnS r code k).2.2.2 2) (p_and (p_shr (p_or (rnS r code k).1 (p_shl (rnS r code k).2.2.1 (2 * (c : Int)))) (2 * (c : Int))) 3) = p_or (p_shl (nmS r code k).1 2) nx
        rw [h1, h2, nm_get hc4 (by omega) e0 e1]
      · show (rnS r code k).2.2.1 + 1 = nx + 1
        rw [h2]
      · show nx + 1 = nmT (up1 (nmS r code k).2.2 c nx)
        rw [nmT_up hc4 hk1 (by omega), ← h3]
      · show up1 (nmS r code k).2.2 c nx c' = -1 ∨ _
        by_cases e : c' = c
        · right; show 0 ≤ up1 (nmS r code k).2.2 c nx c' ∧ up1 (nmS r code k).2.2 c nx c' < 4; rw [e, up1_same]; omega
        · rcases h4 c' hc' with q | q
          · left; rw [up1_o _ e]; exact q
          · right; show 0 ≤ up1 (nmS r code k).2.2 c nx c' ∧ up1 (nmS r code k).2.2 c nx c' < 4; rw [up1_o _ e]; exact q
      · show bt (p_or (rnS r code k).2.1 (p_shl 1 (c : Int))) c' = decide (up1 (nmS r code k).2.2 c nx c' ≠ -1)
        rw [bt_or, h5 c' hc', bt_bit (by omega), Int.toNat_natCast]
        by_cases e : c' = c
        · rw [e, up1_same, decide_eq_true rfl, Bool.or_true, decide_eq_true (show nx ≠ -1 by omega)]
        · rw [up1_o _ e, decide_eq_false e, Bool.or_false]
      · show bt (p_or (rnS r code k).1 (p_shl (rnS r code k).2.2.1 (2 * (c : Int)))) (2 * c' + b) = _
        rw [h2]
        exact bits c' b hc' hb
end
