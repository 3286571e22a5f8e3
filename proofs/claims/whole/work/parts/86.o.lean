noncomputable section
section
variable {d : Nat} {I : Nat → Nat → Int} {S : PS}
theorem c_X3_edgeCount {a0 : Nat} (hl0 : LyX3 S a0) (hv : 0 ≤ I a0 4 ∧ I a0 4 ≤ 15) : Ca (d + 1) mX3_edgeCount [vR (some (14, 0, a0))] (I, S) (.inl (some (vI (smI (fun k => bcn (I (a0 + 2) k) 32) (I a0 4).toNat / 2)))) (I, S) := by
  refine w_X3_edgeCount_0 hl0 ?_
  refine up_loopN (P := fun k => L_X3_edgeCount_4 d a0 (smI (fun k => bcn (I (a0 + 2) k) 32) k) k I S (smI (fun k => bcn (I (a0 + 2) k) 32) (I a0 4).toNat / 2) (I, S)) (n := (I a0 4).toNat) ?_ ?_
  · have h1 := smI_le (g := fun k => bcn (I (a0 + 2) k) 32) (m := 32) (n := (I a0 4).toNat) (fun k _ => bcn_le _ 32)
    exact w_X3_edgeCount_4 hl0 (fun h => absurd h (by omega)) (fun _ => rfl) (v3 := fun h => absurd h (by omega))
  · intro k hk ih
    have h1 := smI_le (g := fun k => bcn (I (a0 + 2) k) 32) (m := 32) (n := k) (fun k _ => bcn_le _ 32)
    have h2 := bcn_le (I (a0 + 2) (k : Int).toNat) 32
    exact w_X3_edgeCount_4 hl0 (fun _ => ih) (fun h => absurd h (by omega))
theorem c_X3_sizeOf {a0 n1 a1 : Nat} (hl0 : LyX3 S a0) (hn : n1 = 3) : Ca (d + 1) mX3_sizeOf [vR (some (14, 0, a0)), vR (some (0, n1, a1))] (I, S) (.inl (some (vI (smI (fun k => bcn (I a1 k) 32) 3)))) (I, S) := by
  subst hn
  refine w_X3_sizeOf_0 hl0 ?_
  refine up_loopN (P := fun k => L_X3_sizeOf_4 d a0 3 a1 (smI (fun k => bcn (I a1 k) 32) k) k I S (smI (fun k => bcn (I a1 k) 32) 3) (I, S)) (n := 3) ?_ ?_
  · exact w_X3_sizeOf_4 hl0 (fun h => absurd h (by decide)) (fun _ => rfl) (v3 := fun h => absurd h (by decide))
  · intro k hk ih
    have h1 := smI_le (g := fun k => bcn (I a1 k) 32) (m := 32) (n := k) (fun k _ => bcn_le _ 32)
    have h2 := bcn_le (I a1 (k : Int).toNat) 32
    exact w_X3_sizeOf_4 hl0 (fun _ => ih) (fun h => absurd h (by omega))
/-! ===== over all spots, the class's ===== -/
theorem snC_bd {T : Nat} (hr : cRl I T) (x y z w : Int) : 0 ≤ sC I T x y z w ∧ sC I T x y z w ≤ 594 := by
  have := snC_le (I := I) (a0 := T + 2) (a5 := 129) (x1 := x) (x2 := y) (x3 := z) (x4 := w) (n := (I (T + 2) 0).toNat) (fun k hk => hr.2 k (by omega))
  have h1 := hr.1
  unfold sC
  omega
theorem chN_bd {sn : Int → Int → Int → Int → Int} {f : Nat → Int} {dg : Int} (hd : 0 ≤ dg ∧ dg ≤ 9) (h : ∀ x y z w, 0 ≤ sn x y z w ∧ sn x y z w ≤ 594) : ∀ n : Nat, -100 - 594 * (n : Int) ≤ chN sn f dg n ∧ chN sn f dg n ≤ 100 + 594 * n
  | 0 => by unfold chN; omega
  | n + 1 => by
    have h1 := chN_bd (f := f) hd h n
    have h2 := h (f n) dg (f (((n : Int) + dg - 1) % dg).toNat) (f (((n : Int) + 1) % dg).toNat)
    have h3 := h dg (f n) (f (((n : Int) + dg - 1) % dg).toNat) (f (((n : Int) + 1) % dg).toNat)
    unfold chN
    omega
theorem ccs_le {T : Nat} {s : Int} (hm : cSp I T) (hr : cRl I T) (hs : 0 ≤ s ∧ s < I T 6) : -10000 ≤ ccs I T s ∧ ccs I T s ≤ 10000 := by
  have h1 := (hm.2 s hs.1 hs.2).1
  have := chN_bd (sn := sC I T) (f := nbC I T s) (dg := I (T + 4) s.toNat) (by omega) (snC_bd hr) (I (T + 4) s.toNat).toNat
  unfold ccs
  omega
theorem ccs_up {T : Nat} (hT : T = 34 ∨ T = 77) {s : Int} (F : Nat → Int) (hd : 1 ≤ I (T + 4) s.toNat) : ccs (up1 I 152 F) T s = ccs I T s := by
  unfold ccs
  have e4 : up1 I 152 F (T + 4) = I (T + 4) := up1_o I (by omega)
  have e6 : up1 I 152 F (T + 6) = I (T + 6) := up1_o I (by omega)
  have e2 : up1 I 152 F (T + 2) = I (T + 2) := up1_o I (by omega)
  rw [e4]
  refine chN_congr hd (fun x y z w => ?_) (fun k _ => ?_) _ (by omega)
  · unfold sC
    rw [e2, snC_up F (by omega) (by omega)]
  · unfold nbC
    rw [e4, e6]
theorem cSp_up {T : Nat} (hT : T = 34 ∨ T = 77) (F : Nat → Int) (h : cSp I T) : cSp (up1 I 152 F) T := by
  unfold cSp at h ⊢
  rw [up1_o I (show T + 4 ≠ 152 by omega), up1_o I (show T + 6 ≠ 152 by omega), up1_o I (show T ≠ 152 by omega)]
  exact h
theorem cRl_up {T : Nat} (hT : T = 34 ∨ T = 77) (F : Nat → Int) (h : cRl I T) : cRl (up1 I 152 F) T := by
  unfold cRl at h ⊢
  rw [up1_o I (show T + 2 ≠ 152 by omega)]
  exact h
def scC (I : Nat → Nat → Int) (T : Nat) : Nat → Nat → Int
  | 0 => I 152
  | k + 1 => upTo (scC I T k) (nbC I T k) 0 (I (T + 4) k).toNat
theorem roI_sc {T : Nat} (hT : T = 34 ∨ T = 77) (F : Nat → Int) (s : Int) : roI (up1 I 152 F) T 152 s = up1 I 152 (upTo F (nbC I T s) 0 (I (T + 4) s.toNat).toNat) := by
  unfold roI
  rw [up1_up1, up1_same, up1_o I (show T + 4 ≠ 152 by omega), up1_o I (show T + 6 ≠ 152 by omega)]
  rfl
theorem c_X11_chargeBehind {T U : Nat} (hl0 : LyX11 S T U) (hT : T = 34 ∨ T = 77) (hm : cSp I T) (hr : cRl I T) : Ca (d + 5) mX11_chargeBehind [vR (some (21, 0, 31))] (I, S) (.inl (some (vI (smI (fun s => ccs I T s) (I T 6).toNat)))) (up1 I 152 (scC I T (I T 6).toNat), S) := by
  have hm1 := hm.1
  refine w_X11_chargeBehind_0 hl0 ?_
  have bd : ∀ n : Nat, (n : Int) ≤ I T 6 → -10000 * (n : Int) ≤ smI (fun s => ccs I T s) n ∧ smI (fun s => ccs I T s) n ≤ 10000 * n := by
    intro n
    induction n with
    | zero => intro _; show -10000 * ((0 : Nat) : Int) ≤ 0 ∧ (0 : Int) ≤ 10000 * ((0 : Nat) : Int); omega
    | succ n ih =>
      intro h
      have h1 := ih (by omega)
      have h2 := ccs_le hm hr (s := n) (by omega)
      show -10000 * ((n + 1 : Nat) : Int) ≤ smI (fun s => ccs I T s) n + ccs I T n ∧ smI (fun s => ccs I T s) n + ccs I T n ≤ 10000 * ((n + 1 : Nat) : Int)
      omega
  refine up_loopN (P := fun k => ∀ J, J = up1 I 152 (scC I T k) → L_X11_chargeBehind_4 d 31 (smI (fun s => ccs I T s) k) k J S (smI (fun s => ccs I T s) (I T 6).toNat) (up1 I 152 (scC I T (I T 6).toNat), S)) (n := (I T 6).toNat) ?_ ?_ I (up1_self I 152).symm
  · intro J hJ
    have e : J T 6 = I T 6 := by rw [hJ, up1_o I (by omega)]
    exact w_X11_chargeBehind_4 hl0 (fun h => absurd h (by omega)) (fun _ => rfl) (fun _ => by rw [hJ]) (v2 := fun h => absurd h (by omega)) (v3 := fun h => absurd h (by omega))
  · intro k hk ih J hJ
    have e : J T 6 = I T 6 := by rw [hJ, up1_o I (by omega)]
    have hd := (hm.2 k (by omega) (by omega)).1
    have ec : ccs J T k = ccs I T k := by rw [hJ]; exact ccs_up hT _ (by omega)
    have hc := ccs_le hm hr (s := k) (by omega)
    have hb := bd k (by omega)
    refine w_X11_chargeBehind_4 hl0 (fun _ => ?_) (fun h => absurd h (by omega)) (fun h => absurd h (by omega)) (v2 := fun _ => by rw [hJ]; exact cSp_up hT _ hm) (v3 := fun _ => by rw [hJ]; exact cRl_up hT _ hr)
    rw [ec]
    refine ih _ ?_
    rw [hJ]
    exact roI_sc hT _ k
theorem c_X11_positiveSpots {T U : Nat} (hl0 : LyX11 S T U) (hT : T = 34 ∨ T = 77) (hm : cSp I T) (hr : cRl I T) : Ca (d + 5) mX11_positiveSpots [vR (some (21, 0, 31))] (I, S) (.inl (some (vI (btN (fun s => decide (0 < ccs I T s)) (I T 6).toNat)))) (up1 I 152 (scC I T (I T 6).toNat), S) := by
  have hm1 := hm.1
  refine w_X11_positiveSpots_0 hl0 ?_
  refine up_loopN (P := fun k => ∀ J, J = up1 I 152 (scC I T k) → L_X11_positiveSpots_4 d 31 (btN (fun s => decide (0 < ccs I T s)) k) k J S (btN (fun s => decide (0 < ccs I T s)) (I T 6).toNat) (up1 I 152 (scC I T (I T 6).toNat), S)) (n := (I T 6).toNat) ?_ ?_ I (up1_self I 152).symm
  · intro J hJ
    have e : J T 6 = I T 6 := by rw [hJ, up1_o I (by omega)]
    exact w_X11_positiveSpots_4 hl0 (fun h => absurd h (by omega)) (fun _ => rfl) (fun _ => by rw [hJ]) (v2 := fun h => absurd h (by omega)) (v3 := fun h => absurd h (by omega))
  · intro k hk ih J hJ
    have e : J T 6 = I T 6 := by rw [hJ, up1_o I (by omega)]
    have hd := (hm.2 k (by omega) (by omega)).1
    have ec : ccs J T k = ccs I T k := by rw [hJ]; exact ccs_up hT _ (by omega)
    refine w_X11_positiveSpots_4 hl0 (fun _ => ?_) (fun h => absurd h (by omega)) (fun h => absurd h (by omega)) (v2 := fun _ => by rw [hJ]; exact cSp_up hT _ hm) (v3 := fun _ => by rw [hJ]; exact cRl_up hT _ hr)
    have st : (if ccs J T k ≤ 0 then (btN (fun s => decide (0 < ccs I T s)) k : Int) else p_or (btN (fun s => decide (0 < ccs I T s)) k) (p_shl 1 (k : Int))) = btN (fun s => decide (0 < ccs I T s)) (k + 1) := by
      rw [ec]
      show _ = if decide (0 < ccs I T k) = true then _ else _
      by_cases h : ccs I T k ≤ 0
      · rw [if_pos h, if_neg (by rw [decide_eq_false (by omega)]; decide)]
      · rw [if_neg h, if_pos (decide_eq_true (by omega))]
    rw [st]
    refine ih _ ?_
    rw [hJ]
    exact roI_sc hT _ k
/-! ===== digits, names ===== -/
def cdS (x : Int) : Nat → Int
  | 0 => 0
  | k + 1 => p_or (cdS x k) (p_shl (dgI x k % 10) (2 * (k : Int)))
def cdR (r x : Int) : Int := if 0 ≤ x ∧ allB (fun k => decide (dgI x k % 10 < 4)) r.toNat = true ∧ dgI x r.toNat = 0 then cdS x r.toNat else -1
theorem c_X6_codeOfDigits {a0 : Nat} {x1 : Int} (hl0 : LyX6 S a0) (hr : 0 ≤ I a0 0 ∧ I a0 0 ≤ 7) (hx : x1 ≤ 2147483647) : Ca d mX6_codeOfDigits [vR (some (16, 0, a0)), vI x1] (I, S) (.inl (some (vI (cdR (I a0 0) x1)))) (I, S) := by
  unfold cdR
  refine w_X6_codeOfDigits_0 hl0 (fun h0 => ?_) (fun h0 => by rw [if_neg (fun q => by have := q.1; omega)])
  refine up_loopN (P := fun k => allB (fun k => decide (dgI x1 k % 10 < 4)) k = true → L_X6_codeOfDigits_13 d a0 x1 (dgI x1 k) (cdS x1 k) k I S _ (I, S)) (n := (I a0 0).toNat) ?_ ?_ rfl
  · intro hf
    refine w_X6_codeOfDigits_13 hl0 (fun h => absurd h (by omega)) (fun _ => ?_) (r2 := fun h => absurd h (by omega))
    by_cases hz : dgI x1 (I a0 0).toNat = 0
    · rw [if_neg (fun q => q hz), if_pos ⟨h0, hf, hz⟩]
    · rw [if_pos hz, if_neg (fun q => hz q.2.2)]
  · intro k hk ih hf
    have h1 := dgI_le h0 k
    refine w_X6_codeOfDigits_13 hl0 (fun _ c => ih (allB_succ hf (decide_eq_true c))) (fun h => absurd h (by omega)) (r2 := fun _ c => ?_)
    rw [if_neg (fun q => ?_)]
    have := allB_iff.mp q.2.1 k hk
    have := of_decide_eq_true this
    omega
/-- names, which are known, the next one, the result -/
def rnS (r code : Int) : Nat → Int × Int × Int × Int
  | 0 => (0, 0, 0, 0)
  | k + 1 => ((if p_and (p_shr (rnS r code k).2.1 (cAt r code k)) 1 ≠ 0 then ((rnS r code k).1 : Int) else p_or (rnS r code k).1 (p_shl (rnS r code k).2.2.1 (2 * cAt r code k))), (if p_and (p_shr (rnS r code k).2.1 (cAt r code k)) 1 ≠ 0 then ((rnS r code k).2.1 : Int) else p_or (rnS r code k).2.1 (p_shl 1 (cAt r code k))), (if p_and (p_shr (rnS r code k).2.1 (cAt r code k)) 1 ≠ 0 then ((rnS r code k).2.2.1 : Int) else (rnS r code k).2.2.1 + 1), p_or (p_shl (rnS r code k).2.2.2 2) (p_and (p_shr (if p_and (p_shr (rnS r code k).2.1 (cAt r code k)) 1 ≠ 0 then ((rnS r code k).1 : Int) else p_or (rnS r code k).1 (p_shl (rnS r code k).2.2.1 (2 * cAt r code k))) (2 * cAt r code k)) 3))
theorem rnS_nx (r code : Int) : ∀ n : Nat, 0 ≤ (rnS r code n).2.2.1 ∧ (rnS r code n).2.2.1 ≤ n
  | 0 => ⟨Int.le_refl 0, Int.le_refl 0⟩
  | n + 1 => by
    have := rnS_nx r code n
    show 0 ≤ (if _ ≠ _ then _ else _ : Int) ∧ (if _ ≠ _ then _ else _ : Int) ≤ _
    split <;> omega
theorem c_X6_renamed {a0 : Nat} {x1 : Int} (hl0 : LyX6 S a0) (hr : 0 ≤ I a0 0 ∧ I a0 0 ≤ 7) : Ca d mX6_renamed [vR (some (16, 0, a0)), vI x1] (I, S) (.inl (some (vI (rnS (I a0 0) x1 (I a0 0).toNat).2.2.2))) (I, S) := by
  refine w_X6_renamed_0 hl0 ?_
  refine up_loopN (P := fun k => L_X6_renamed_13 d a0 x1 (rnS (I a0 0) x1 k).1 (rnS (I a0 0) x1 k).2.1 (rnS (I a0 0) x1 k).2.2.1 (rnS (I a0 0) x1 k).2.2.2 k I S (rnS (I a0 0) x1 (I a0 0).toNat).2.2.2 (I, S)) (n := (I a0 0).toNat) ?_ ?_
  · have h3 := fun q => p_and_3 (p_shr x1 q)
    exact w_X6_renamed_13 hl0 (fun h => absurd h (by omega)) (fun _ => rfl)
  · intro k hk ih
    have h3 := p_and_3 (p_shr x1 (2 * (I a0 0 - 1 - (k : Int))))
    have h4 := rnS_nx (I a0 0) x1 k
    exact w_X6_renamed_13 hl0 (fun _ => ih) (fun h => absurd h (by omega))
end
end
