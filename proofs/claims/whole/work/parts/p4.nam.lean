/-! ===== names of colourings, both sides ===== -/
noncomputable section
section
variable {d : Nat} {I J K X Y Z : Nat → Nat → Int} {S S' S1 S2 : PS} {c T U n P R N A a2 p s r a : Nat} {dg b : Int}
/-- a name keeps what differs -/
theorem nmN_dg {r m : Nat} (hr : r ≤ 7) (hm : m < 2147483648) : ∀ k : Nat, k ≤ r → ∀ j, j < k → (nmN r m k).2.2 (dgN r m j) < 4 ∧ (nmN r m k).1 / 4 ^ (k - 1 - j) % 4 = (nmN r m k).2.2 (dgN r m j)
  | 0, _, j, hj => absurd hj (Nat.not_lt_zero j)
  | k + 1, hk, j, hj => by
    have ih := nmN_dg hr hm k (by omega)
    have hd : ∀ j, dgN r m j < 4 := fun j => Nat.mod_lt _ (by decide)
    have hN := nm_nat hr hm k (by omega)
    by_cases q : (nmN r m k).2.2 (dgN r m k) ≠ 4
    · have e : nmN r m (k + 1) = (4 * (nmN r m k).1 + (nmN r m k).2.2 (dgN r m k), (nmN r m k).2.1, (nmN r m k).2.2) := by
        show (if (nmN r m k).2.2 (dgN r m k) ≠ 4 then _ else _) = _
        rw [if_pos q]
      have h4 := (hN.2.2.1 (dgN r m k) (hd k)).2
      rw [e]
      by_cases z : j = k
      · subst z
        refine ⟨by show (nmN r m j).2.2 (dgN r m j) < 4; omega, ?_⟩
        show (4 * (nmN r m j).1 + (nmN r m j).2.2 (dgN r m j)) / 4 ^ (j + 1 - 1 - j) % 4 = (nmN r m j).2.2 (dgN r m j)
        rw [show j + 1 - 1 - j = 0 by omega, Nat.pow_zero, Nat.div_one]
        omega
      · have h1 := ih j (by omega)
        refine ⟨h1.1, ?_⟩
        show (4 * (nmN r m k).1 + (nmN r m k).2.2 (dgN r m k)) / 4 ^ (k + 1 - 1 - j) % 4 = (nmN r m k).2.2 (dgN r m j)
        rw [show k + 1 - 1 - j = (k - 1 - j) + 1 by omega, Nat.pow_succ', ← Nat.div_div_eq_div_mul, show (4 * (nmN r m k).1 + (nmN r m k).2.2 (dgN r m k)) / 4 = (nmN r m k).1 by omega]
        exact h1.2
    · have q4 : (nmN r m k).2.2 (dgN r m k) = 4 := Decidable.not_not.mp q
      have e : nmN r m (k + 1) = (4 * (nmN r m k).1 + (nmN r m k).2.1, (nmN r m k).2.1 + 1, fun c => if c = dgN r m k then (nmN r m k).2.1 else (nmN r m k).2.2 c) := by
        show (if (nmN r m k).2.2 (dgN r m k) ≠ 4 then _ else _) = _
        rw [if_neg q]
      have hf := (hN.2.2.1 (dgN r m k) (hd k)).1
      rw [if_pos q4] at hf
      have hT := nmT_in (hd k) hf
      have hc := (rn_nm (r : Int) (m : Int) k).2.2.1
      rw [← hc, hN.2.1] at hT
      rw [e]
      by_cases z : j = k
      · subst z
        show (if dgN r m j = dgN r m j then (nmN r m j).2.1 else _) < 4 ∧ (4 * (nmN r m j).1 + (nmN r m j).2.1) / 4 ^ (j + 1 - 1 - j) % 4 = (if dgN r m j = dgN r m j then (nmN r m j).2.1 else _)
        rw [if_pos rfl, show j + 1 - 1 - j = 0 by omega, Nat.pow_zero, Nat.div_one]
        omega
      · have h1 := ih j (by omega)
        have hne : dgN r m j ≠ dgN r m k := fun w => by
          have := h1.1
          rw [w, q4] at this
          exact absurd this (by decide)
        show (if dgN r m j = dgN r m k then (nmN r m k).2.1 else (nmN r m k).2.2 (dgN r m j)) < 4 ∧ (4 * (nmN r m k).1 + (nmN r m k).2.1) / 4 ^ (k + 1 - 1 - j) % 4 = (if dgN r m j = dgN r m k then (nmN r m k).2.1 else (nmN r m k).2.2 (dgN r m j))
        rw [if_neg hne, show k + 1 - 1 - j = (k - 1 - j) + 1 by omega, Nat.pow_succ', ← Nat.div_div_eq_div_mul, show (4 * (nmN r m k).1 + (nmN r m k).2.1) / 4 = (nmN r m k).1 by omega]
        exact h1
theorem nmN_pr {r m : Nat} (hr : 1 ≤ r ∧ r ≤ 7) (hm : m < 2147483648) (h : prN r (nmN r m r).1 = true) : prN r m = true := by
  unfold prN at h ⊢
  rw [allB_iff] at h ⊢
  intro k hk
  have h1 := of_decide_eq_true (h k hk)
  have d1 := (nmN_dg hr.2 hm r (Nat.le_refl r) k hk).2
  have d2 := (nmN_dg hr.2 hm r (Nat.le_refl r) ((k + 1) % r) (Nat.mod_lt _ (by omega))).2
  refine decide_eq_true (fun e => h1 ?_)
  show (nmN r m r).1 / 4 ^ (r - 1 - k) % 4 = (nmN r m r).1 / 4 ^ (r - 1 - (k + 1) % r) % 4
  rw [d1, d2, e]
theorem cdS_bt {x : Int} (hx : 0 ≤ x) : ∀ k : Nat, k ≤ 7 → (∀ j, j < k → dgI x j % 10 < 4) → isI (cdS x k) ∧ ∀ i, 2 * k ≤ i → i < 32 → bt (cdS x k) i = false
  | 0, _, _ => ⟨⟨by show (-2147483648 : Int) ≤ 0; decide, by show (0 : Int) ≤ 2147483647; decide⟩, fun i _ _ => bt_zero i⟩
  | k + 1, hk, h => by
    obtain ⟨h1, h2⟩ := cdS_bt hx k (by omega) (fun j hj => h j (by omega))
    refine ⟨isI_or _ _, fun i hi h32 => ?_⟩
    show bt (p_or (cdS x k) (p_shl (dgI x k % 10) (2 * (k : Int)))) i = false
    have hd := h k (by omega)
    have hd0 := (dgI_le hx k).1
    rw [bt_or, h2 i (by omega) h32, bt_shl (by omega), Bool.false_or, bt_of_small (n := 2) (by omega) ⟨by omega, by show dgI x k % 10 < 4; exact hd⟩ (by omega), Bool.and_false]
theorem cdS_in {x : Int} (hx : 0 ≤ x) (hr : r = 5 ∨ r = 6 ∨ r = 7) (h : ∀ j, j < r → dgI x j % 10 < 4) : ∃ m : Nat, cdS x r = (m : Int) ∧ m < 4 ^ r := by
  obtain ⟨h1, h2⟩ := cdS_bt hx r (by omega) h
  have h3 := bt_small (n := 2 * r) (by omega) h1 h2
  refine ⟨(cdS x r).toNat, by omega, ?_⟩
  have e : (2 : Int) ^ (2 * r) = ((4 ^ r : Nat) : Int) := by
    rw [show (4 : Nat) = 2 ^ 2 from rfl, ← Nat.pow_mul]
    norm_cast
  rw [e] at h3
  omega
/-- the name's place, by the class -/
def nmP (r : Nat) (x : Int) (F : Nat → Int) : Int := if cdR (r : Int) x ≠ -1 then fstB (fun k => decide (F k = (rnS (r : Int) (cdR (r : Int) x) r).2.2.2)) (lnC r) else -1
theorem nam_fin {x : Int} {F : Nat → Int} (hr : r = 5 ∨ r = 6 ∨ r = 7) (hx : 0 ≤ x) (hF : ∀ i, i < lnC r → F i = (cdN r i : Int)) (ha : allB (fun k => decide (dgI x k % 10 < 4)) r = true) (h0 : dgI x r = 0) : nmP r x F = if isPr (r : Int) (cdS x r) = true then fstB (fun k => decide (F k = (nmS (r : Int) (cdS x r) r).1)) (lnC r) else -1 := by
  have hd : ∀ j, j < r → dgI x j % 10 < 4 := fun j hj => of_decide_eq_true (allB_iff.mp ha j hj)
  obtain ⟨m, em, hm⟩ := cdS_in hx hr hd
  have hc : cdR (r : Int) x = (m : Int) := by
    unfold cdR
    rw [if_pos ⟨hx, by rw [Int.toNat_natCast]; exact ha, by rw [Int.toNat_natCast]; exact h0⟩, Int.toNat_natCast]
    exact em
  unfold nmP
  rw [hc, if_pos (by omega), em, (rn_nm (r : Int) (m : Int) r).1]
  by_cases q : isPr (r : Int) (m : Int) = true
  · rw [if_pos q]
  · rw [if_neg q]
    have hp4 : (4 : Nat) ^ r ≤ 16384 := by rcases hr with e | e | e <;> subst e <;> decide
    rw [pr_nat (by omega) (by omega)] at q
    refine fst_none (fun k hk => decide_eq_false (fun e => ?_))
    rw [hF k hk, (nm_nat (by omega) (by omega) r (Nat.le_refl r)).1] at e
    have e' : cdN r k = (nmN r m r).1 := by omega
    have hA := chkA_all hr (cl_lt hr (cd_mem hk))
    unfold chkA at hA
    have hin : (clN r).contains (cdN r k) = true := List.contains_iff_mem.mpr (cd_mem hk)
    rw [hin] at hA
    have hpr : prN r (cdN r k) = true := by
      cases w : prN r (cdN r k) with
      | true => rfl
      | false => rw [w, Bool.false_and] at hA; exact absurd hA (by decide)
    rw [e'] at hpr
    exact q (nmN_pr (by omega) (by omega) hpr)
theorem nam_bad {x : Int} {F : Nat → Int} (h : ¬(0 ≤ x ∧ allB (fun k => decide (dgI x k % 10 < 4)) r = true ∧ dgI x r = 0)) : nmP r x F = -1 := by
  have hc : cdR (r : Int) x = -1 := by
    unfold cdR
    rw [Int.toNat_natCast, if_neg h]
  unfold nmP
  rw [hc, if_neg (fun z => z rfl)]
theorem nam_loop {x : Int} {F : Nat → Int} (hl0 : LyX12 S) (hr : r = 5 ∨ r = 6 ∨ r = 7) (hp : p < 4) (h9 : I 159 ((20 * (p : Int)) + 9).toNat = (r : Int)) (h7 : I 167 p = (lnC r : Int)) (h8 : ∀ i : Nat, i < lnC r → I 168 ((96 * (p : Int)) + (i : Int)).toNat = F i) (hF : ∀ i, i < lnC r → F i = (cdN r i : Int)) (hx : 0 ≤ x ∧ x ≤ 2147483647) : ∀ t k : Nat, k + t = r → allB (fun k => decide (dgI x k % 10 < 4)) k = true → ∃ K, L_X12_named_23 0 156 (p : Int) x (cdS x k) (dgI x k) (k : Int) I S (nmP r x F) (K, S) ∧ ∀ a, a ≠ 174 → K a = I a
  | 0, k, hk, ha => by
    have hkr : k = r := by omega
    subst hkr
    have hln := ln_96 hr
    have e7 : ∀ y, (nmI I (k : Int) y) 167 (p : Int).toNat = (lnC k : Int) := fun y => by
      rw [show (nmI I (k : Int) y) 167 = I 167 from up1_o _ (by decide), Int.toNat_natCast]
      exact h7
    by_cases z : dgI x k = 0
    · have hfin := nam_fin hr hx.1 hF ha z
      by_cases q : isPr (k : Int) (cdS x k) = true
      · rw [if_pos q] at hfin
        refine ⟨nmI I (k : Int) (cdS x k), ?_, fun a ha => up1_o _ ha⟩
        refine w_X12_named_23 hl0 (fun q => absurd q (by rw [h9]; omega)) (fun _ q => absurd z q) (e1 := fun _ q => absurd z q) (r2 := fun _ _ _ => ?_) (e2 := fun _ _ _ => by rw [h9]) (r3 := fun _ _ q' => absurd (by rw [h9]; exact q) q') (e3 := fun _ _ q' => absurd (by rw [h9]; exact q) q') (r4 := fun q => absurd q (by rw [h9]; omega)) (e4 := fun q => absurd q (by rw [h9]; omega)) (r5 := fun q => absurd q (by rw [h9]; omega)) (e5 := fun q => absurd q (by rw [h9]; omega)) (v1 := by omega) (v2 := fun _ _ => by rw [h9]; omega) (v3 := fun _ _ _ => by rw [h9]; omega) (v4 := fun _ _ _ => by rw [h9, e7]; omega) (v5 := fun _ _ _ => by omega) (v6 := fun _ _ _ => by omega)
        rw [h9, e7, hfin, Int.toNat_natCast, Int.toNat_natCast]
        exact fstB_congr (fun i hi => by rw [h8 i hi])
      · rw [if_neg q] at hfin
        exact ⟨I, w_X12_named_23 hl0 (fun q => absurd q (by rw [h9]; omega)) (fun _ q => absurd z q) (e1 := fun _ q => absurd z q) (r2 := fun _ _ q' => absurd (by rw [← h9]; exact q') q) (e2 := fun _ _ q' => absurd (by rw [← h9]; exact q') q) (r3 := fun _ _ _ => hfin.symm) (e3 := fun _ _ _ => rfl) (r4 := fun q => absurd q (by rw [h9]; omega)) (e4 := fun q => absurd q (by rw [h9]; omega)) (r5 := fun q => absurd q (by rw [h9]; omega)) (e5 := fun q => absurd q (by rw [h9]; omega)) (v1 := by omega) (v2 := fun _ _ => by rw [h9]; omega) (v3 := fun _ _ _ => by rw [h9]; omega) (v4 := fun _ _ _ => by rw [h9, e7]; omega) (v5 := fun _ _ _ => by omega) (v6 := fun _ _ _ => by omega), fun _ _ => rfl⟩
    · have hb := nam_bad (r := k) (x := x) (F := F) (fun q => z q.2.2)
      exact ⟨I, w_X12_named_23 hl0 (fun q => absurd q (by rw [h9]; omega)) (fun _ _ => hb.symm) (e1 := fun _ _ => rfl) (r2 := fun _ q => absurd q z) (e2 := fun _ q => absurd q z) (r3 := fun _ q => absurd q z) (e3 := fun _ q => absurd q z) (r4 := fun q => absurd q (by rw [h9]; omega)) (e4 := fun q => absurd q (by rw [h9]; omega)) (r5 := fun q => absurd q (by rw [h9]; omega)) (e5 := fun q => absurd q (by rw [h9]; omega)) (v1 := by omega) (v2 := fun _ _ => by rw [h9]; omega) (v3 := fun _ _ _ => by rw [h9]; omega) (v4 := fun _ _ _ => by rw [h9, e7]; omega) (v5 := fun _ _ _ => by omega) (v6 := fun _ _ _ => by omega), fun _ _ => rfl⟩
  | t + 1, k, hk, ha => by
    have hd := dgI_le hx.1 k
    have er : p_rem (dgI x k) 10 = dgI x k % 10 := p_rem_eq (by omega)
    have ed : p_div (dgI x k) 10 = dgI x k / 10 := p_div_eq (by omega)
    have nk : ∀ {Q : Prop}, (I 159 ((20 * (p : Int)) + 9).toNat ≤ (k : Int)) → Q := fun q => absurd q (by rw [h9]; omega)
    by_cases z : dgI x k % 10 < 4
    · obtain ⟨K, k1, k2⟩ := nam_loop hl0 hr hp h9 h7 h8 hF hx t (k + 1) (by omega) (allB_succ ha (decide_eq_true z))
      refine ⟨K, w_X12_named_23 hl0 (fun _ _ _ => ?_) (fun q => nk q) (e1 := fun q => nk q) (r2 := fun q => nk q) (e2 := fun q => nk q) (r3 := fun q => nk q) (e3 := fun q => nk q) (r4 := fun _ q => absurd q (by rw [er]; omega)) (e4 := fun _ q => absurd q (by rw [er]; omega)) (r5 := fun _ _ q => absurd q (by omega)) (e5 := fun _ _ q => absurd q (by omega)) (v1 := by omega) (v2 := fun q => nk q) (v3 := fun q => nk q) (v4 := fun q => nk q) (v5 := fun _ _ _ => by omega) (v6 := fun _ _ _ => by omega), k2⟩
      rw [er, ed]
      exact k1
    · have hb := nam_bad (r := r) (x := x) (F := F) (fun q => z (of_decide_eq_true (allB_iff.mp q.2.1 k (by omega))))
      exact ⟨I, w_X12_named_23 hl0 (fun _ q => absurd q (by rw [er]; omega)) (fun q => nk q) (e1 := fun q => nk q) (r2 := fun q => nk q) (e2 := fun q => nk q) (r3 := fun q => nk q) (e3 := fun q => nk q) (r4 := fun _ _ => hb.symm) (e4 := fun _ _ => rfl) (r5 := fun _ q => absurd q (by rw [er]; omega)) (e5 := fun _ q => absurd q (by rw [er]; omega)) (v1 := by omega) (v2 := fun q => nk q) (v3 := fun q => nk q) (v4 := fun q => nk q) (v5 := fun _ _ _ => by omega) (v6 := fun _ _ _ => by omega), fun _ _ => rfl⟩
theorem nam_M {x : Int} {F : Nat → Int} (hl0 : LyX12 S) (hr : r = 5 ∨ r = 6 ∨ r = 7) (hp : p < 4) (hpP : (p : Int) < I 156 13) (h9 : I 159 ((20 * (p : Int)) + 9).toNat = (r : Int)) (h7 : I 167 p = (lnC r : Int)) (h8 : ∀ i : Nat, i < lnC r → I 168 ((96 * (p : Int)) + (i : Int)).toNat = F i) (hF : ∀ i, i < lnC r → F i = (cdN r i : Int)) (hx : x ≤ 2147483647) : ∃ K, Ca 3 mX12_named [vR (some (22, 0, 156)), vI (p : Int), vI x] (I, S) (.inl (some (vI (nmP r x F)))) (K, S) ∧ K 156 0 = 0 ∧ fR U I K := by
  have hP : (0 ≤ (p : Int) ∧ (p : Int) < I 156 13) := ⟨by omega, hpP⟩
  obtain ⟨Z, hZ⟩ : ∃ Z, Z = up2 I 156 0 0 := ⟨_, rfl⟩
  have zb : ∀ b, b ≠ 156 → Z b = I b := fun b hb => by rw [hZ]; exact funext (fun j => up2_a _ hb)
  have h9' : Z 159 ((20 * (p : Int)) + 9).toNat = (r : Int) := by rw [zb 159 (by decide)]; exact h9
  have fin : ∃ K, L_X12_named_23 0 156 (p : Int) x 0 x 0 Z S (nmP r x F) (K, S) ∧ ∀ a, a ≠ 174 → K a = Z a := by
    by_cases q : 0 ≤ x
    · exact nam_loop (I := Z) hl0 hr hp h9' (by rw [zb 167 (by decide)]; exact h7) (fun i hi => by rw [zb 168 (by decide)]; exact h8 i hi) hF ⟨q, hx⟩ r 0 (by omega) rfl
    · have hb := nam_bad (r := r) (x := x) (F := F) (fun q' => q q'.1)
      have nk : ∀ {Q : Prop}, (Z 159 ((20 * (p : Int)) + 9).toNat ≤ 0) → Q := fun q => absurd q (by rw [h9']; omega)
      exact ⟨Z, w_X12_named_23 hl0 (fun _ _ q' => absurd q' q) (fun q => nk q) (e1 := fun q => nk q) (r2 := fun q => nk q) (e2 := fun q => nk q) (r3 := fun q => nk q) (e3 := fun q => nk q) (r4 := fun _ _ => hb.symm) (e4 := fun _ _ => rfl) (r5 := fun _ _ _ => hb.symm) (e5 := fun _ _ _ => rfl) (v1 := by omega) (v2 := fun q => nk q) (v3 := fun q => nk q) (v4 := fun q => nk q) (v5 := fun _ _ _ => by omega) (v6 := fun _ _ _ => by omega), fun _ _ => rfl⟩
  obtain ⟨K, k1, k2⟩ := fin
  rw [hZ] at k1
  refine ⟨K, w_X12_named_0 (d := 0) hl0 (fun _ => k1) (fun q => absurd hP q) (e1 := fun q => absurd hP q), by rw [k2 156 (by decide), hZ]; exact up2_same _ _ _ _, ?_⟩
  refine fR_trans (fR_0 (v := 0)) (fR_scr (fun a ha => ?_))
  rw [k2 a (fun e => ha ⟨by rw [e]; unfold scr; omega, by omega⟩), hZ]
end
end
