/-! ===== cases told, both sides ===== -/
noncomputable section
section
variable {d : Nat} {I J K X Y Z : Nat → Nat → Int} {S S' S1 S2 : PS} {c T U n P R N A a2 p s r a h : Nat} {dg b : Int}
theorem sM_fr (e0 : Y 156 14 = J 156 14) (e1 : Y 160 = J 160) (e2 : Y 178 = J 178) : sM Y 0 = sM J 0 := by
  funext x y z w
  unfold sM
  rw [e0, snM_sm, snM_sm]
  refine smI_cg (fun i _ => ?_)
  unfold q_X12_doesSend
  rw [e1, e2]
/-- a set of pieces that meets the reducible ones -/
theorem and_any {Q Rd : Nat → Bool} {v : Int} {P : Nat} (hP : P ≤ 4) (hv : ∀ i, i < 32 → bt v i = (decide (i < P) && Rd i)) : decide (p_and (btN Q P) v ≠ 0) = anyB (fun p => Q p && Rd p) P := by
  have e : p_and (btN Q P) v = btN (fun p => Q p && Rd p) P := bt_ext (isI_and _ _) (btN_isI _ _) (fun i hi => by
    rw [bt_and, btN_bt (by omega), btN_bt (by omega), hv i hi]
    cases decide (i < P) <;> cases Q i <;> cases Rd i <;> rfl)
  rw [e]
  cases q : anyB (fun p => Q p && Rd p) P with
  | true => exact decide_eq_true ((btN_ne (by omega)).mpr q)
  | false => exact decide_eq_false (fun z => by rw [(btN_ne (by omega)).mp z] at q; exact absurd q (by decide))
theorem IV_cPi (h : IV c T U n P R N I S) : cPi I T := by
  obtain ⟨⟨b1, b2, b3⟩, ⟨e1, e2, e3⟩, f1, f2, f3⟩ := fc_IV h
  exact ⟨by omega, fun p hp => f3 p (by omega)⟩
theorem IV_cRl (h : IV c T U n P R N I S) : cRl I T := by
  obtain ⟨⟨b1, b2, b3⟩, ⟨e1, e2, e3⟩, f1, f2, f3⟩ := fc_IV h
  exact ⟨by omega, fun k hk => f2 k (by omega)⟩
theorem IV_cSp (h : IV c T U n P R N I S) : cSp I T := by
  obtain ⟨⟨b1, b2, b3⟩, ⟨e1, e2, e3⟩, f1, f2, f3⟩ := fc_IV h
  exact ⟨by omega, fun s h0 h1 => f1 s h0 (by omega)⟩
theorem IV_mRl (h : IV c T U n P R N I S) : mRl I 0 := by
  obtain ⟨⟨b1, b2, b3⟩, ⟨m1, m2, m3⟩, g1, g2, g3⟩ := fm_IV h
  exact ⟨by omega, fun k hk => g2 k (by omega)⟩
theorem IV_mPs (h : IV c T U n P R N I S) : mPs I := by
  obtain ⟨⟨b1, b2, b3⟩, ⟨m1, m2, m3⟩, g1, g2, g3⟩ := fm_IV h
  refine ⟨by omega, fun p hp => g3 p (by omega), fun p hp => ?_⟩
  obtain ⟨r, s, cc, k1, k2, k3, k4, k5, k8, k9, k10, k11⟩ := pM_IV h (p := p) (by omega)
  have := ln_96 k1
  rw [k8]
  exact ⟨by omega, fun k hk => k10 k (by omega)⟩
theorem hw_eq (h : IV c T U n P R N I S) {g : Nat} (hg : 1 ≤ g) {v : Int} (hv : ∀ i, i < 32 → bt v i = (decide (i < P) && rdM I i)) : (fun k => decide (p_and (hwC I T g k) v ≠ 0)) = cvW I g := by
  funext k
  have hP := IV_P h
  unfold hwC cvW
  rw [hP.2.1, hP.2.2.1, Int.toNat_natCast, and_any hP.1 hv]
  refine anyB_congr (fun p hp => ?_)
  congr 1
  obtain ⟨⟨H, s', r', cc, e1, e2, e3, e4, _⟩, _⟩ := hP.2.2.2 p hp
  have i1 : (20 * (p : Int)).toNat = 20 * p := by omega
  have i2 : ((20 * (p : Int)) + 1).toNat = 20 * p + 1 := by omega
  rw [i1, i2, show I (T + 7 + 9 * p) 0 = I 159 (20 * p) by omega, show I (T + 7 + 9 * p) 1 = I 159 (20 * p + 1) by omega]
  refine hlB_cg (by omega) (fun k hk => ?_) (fun k hk => rfl)
  rw [show ((20 * (p : Int)) + 2 + (k : Int)).toNat = 20 * p + 2 + k by omega]
  exact (e4 k (by omega)).2.symm
theorem llK_0 (hh : h = 5 ∨ h = 6 ∨ h = 7) : llK h 0 = true := by
  rcases hh with e | e | e <;> subst e <;> decide +kernel
theorem cs_N1 {x1 x2 : Int} (hl0 : LyX12 S) (w : ¬(0 ≤ x2 ∧ x2 ≤ 5)) : Ca 4 mX12_cases [vR (some (22, 0, 156)), vI x1, vI x2] (I, S) (.inl (some (vI 0))) (up2 (up2 I 156 0 0) 156 0 1, S) :=
  w_X12_cases_0 (d := 0) hl0 (fun q => absurd q w) (r1 := fun q => absurd q w) (e1 := fun q => absurd q w) (r2 := fun _ => rfl) (e2 := fun _ => rfl)
theorem cs_N2 {x1 x2 : Int} (hl0 : LyX12 S) (w1 : 0 ≤ x2 ∧ x2 ≤ 5) (w : ¬(5 ≤ x1 ∧ x1 ≤ 7)) : Ca 4 mX12_cases [vR (some (22, 0, 156)), vI x1, vI x2] (I, S) (.inl (some (vI 0))) (up2 (up2 I 156 0 0) 156 0 2, S) :=
  w_X12_cases_0 (d := 0) hl0 (fun _ q => absurd q w) (r1 := fun _ _ => rfl) (e1 := fun _ _ => rfl) (r2 := fun q => absurd w1 q) (e2 := fun q => absurd w1 q)
theorem pu_cases {x1 x2 : Int} (h : IV c T U n P R N I S) : outC c mX11_cases mX12_cases ecN [vI x1, vI x2] I S := by
  obtain ⟨l1, l2, hT⟩ := IV_L h
  by_cases w : (0 ≤ x2 ∧ x2 ≤ 5) ∧ 5 ≤ x1 ∧ x1 ≤ 7
  · obtain ⟨g, hg⟩ : ∃ g : Nat, x1 = (g : Int) := ⟨x1.toNat, by omega⟩
    subst hg
    have hh : g = 5 ∨ g = 6 ∨ g = 7 := by omega
    obtain ⟨v, J1, S1, r1, r2, r3, r4, r5, r6⟩ := red_C h
    have hT2 := (IV_L r4).2.2
    have l11 := (IV_L r4).1
    obtain ⟨J, t1, t2, t3, t40, t41, t42, t43, t44, t45⟩ := ta_C (d := 29) (x4 := v) (S := S1) (T := T) (ly_X11_b l11) (ly_X11_c l11) (by omega) hh (IV_cRl r4) (IV_cPi r4) (fun h' hq => by obtain ⟨q5, q6, q7⟩ := IV_C r4; rcases hq with e | e | e <;> subst e <;> assumption)
    have hc := c_X11_cases (d := 10) (I := I) (S := S) (x1 := (g : Int)) (x2 := x2) (z1 := v) (J1 := J1) (S1 := S1) (J2 := J) l1 (fun _ _ _ _ => by omega) (fun _ _ _ _ => r1) (fun _ _ _ _ => l11) (fun _ _ _ _ => t1)
    simp only [if_neg (show ¬(x2 < 0) by omega), if_pos w.1.2, if_neg (show ¬((g : Int) < 5) by omega), if_pos w.2.2] at hc
    have r4' : IV c T U n P R N J S1 := IV_0 r4 ⟨fun b b1 b2 _ _ _ => t2 b (fun e => b2 (by unfold scr; omega)) (fun e => b2 (by unfold scr; omega)) (fun e => b2 (by unfold scr; omega)) (fun e => b2 (by unfold scr; omega)), fun k _ => by rw [t2 156 (by decide) (by decide) (by decide) (by decide)], fun k _ => by rw [t2 178 (by decide) (by decide) (by decide) (by decide)]⟩ ⟨t3 5 (by omega), t3 6 (by omega), t3 7 (by omega)⟩ (rgI_of (IV_G r4).1 (fun b hb => t2 b (by omega) (by omega) (by omega) (by omega)) (fun b b1 b2 => t2 b (by omega) (by omega) (by omega) (by omega))) rfS_refl
    refine mk_okI (Ca.deep hc (by omega)) (IV_c r4' (by omega)) ((t2 0 (by omega) (by omega) (by omega) (by omega)).trans (r6 0 (by omega) (by omega))) (fun Y hY hYJ => ?_)
    have yj : ∀ b, 126 ≤ b → b < 191 → Y b = J1 b := fun b h1 h2 => by rw [hYJ b (by omega), t2 b (by omega) (by omega) (by omega) (by omega)]
    obtain ⟨F, hm⟩ := cs_M (d := 0) (I := Y) (S := S1) (x2 := x2) (IV_L hY).2.1 hh (IV_mRl hY) (IV_mPs hY) w.1
    have ech : chV0 Y g = chW J1 T g := by
      funext k
      unfold chV0 chW
      rw [sC_sM r4, sM_fr (J := J1) (by rw [yj 156 (by decide) (by decide)]) (yj 160 (by decide) (by decide)) (yj 178 (by decide) (by decide))]
    have ecv : cvW Y g = fun k => decide (p_and (hwC J1 T g k) v ≠ 0) := by
      rw [hw_eq r4 (by omega) r3]
      funext k
      unfold cvW
      rw [yj 159 (by decide) (by decide), yj 156 (by decide) (by decide)]
      exact anyB_congr (fun p _ => by rw [rdM_fr (J := Y) (I := J1) (fun b h1 h3 => yj b (by omega) h3) p])
    have hbd := chW_bd hh (IV_cRl r4) 0
    have ety : tyM (-999999) (chW J1 T g) g (3 ^ g) = tyM (-2147483648) (chW J1 T g) g (3 ^ g) := by
      have e : 3 ^ g = (3 ^ g - 1) + 1 := by have := Nat.pow_pos (n := g) (show 0 < 3 by decide); omega
      rw [e]
      exact tyM_start (llK_0 hh) (by omega) (by omega) _
    have ev : csV x2 (chV0 Y g) (cvW Y g) (-999999) g = J 125 x2.toNat := by
      rw [ech, ecv]
      unfold csV
      rcases (show x2 = 0 ∨ x2 = 1 ∨ x2 = 2 ∨ x2 = 3 ∨ x2 = 4 ∨ x2 = 5 by omega) with e | e | e | e | e | e <;> subst e
      · rw [if_pos rfl]; exact t40.symm
      · rw [if_neg (by decide), if_pos rfl]; exact t41.symm
      · rw [if_neg (by decide), if_neg (by decide), if_pos rfl]; exact t42.symm
      · rw [if_neg (by decide), if_neg (by decide), if_neg (by decide), if_pos rfl]; exact t43.symm
      · rw [if_neg (by decide), if_neg (by decide), if_neg (by decide), if_neg (by decide), if_pos rfl]; exact t44.symm
      · rw [if_neg (by decide), if_neg (by decide), if_neg (by decide), if_neg (by decide), if_neg (by decide), ety]; exact t45.symm
    rw [ev] at hm
    exact ⟨_, Ca.deep hm (by omega), by rw [up1_o _ (by decide)]; exact up2_same _ _ _ _, fR_trans (fR_0 (v := 0)) (fR_scr (fun a ha => up1_o _ (fun e => ha ⟨by rw [e]; unfold scr; omega, by omega⟩)))⟩
  · refine (fun hc => ?m1) (c_X11_cases (d := 0) (I := I) (S := S) (x1 := x1) (x2 := x2) (z1 := 0) (J1 := I) (S1 := S) (J2 := I) l1 (fun _ _ _ _ => by omega) (fun q1 q2 q3 q4 => absurd ⟨⟨q1, q2⟩, q3, q4⟩ w) (fun q1 q2 q3 q4 => absurd ⟨⟨q1, q2⟩, q3, q4⟩ w) (fun q1 q2 q3 q4 => absurd ⟨⟨q1, q2⟩, q3, q4⟩ w))
    have bad1 : Ca 25 mX11_cases [vR (some (21, 0, 31)), vI x1, vI x2] (I, S) (.inr 1) (I, exS S) → ¬(0 ≤ x2 ∧ x2 ≤ 5) → outC c mX11_cases mX12_cases ecN [vI x1, vI x2] I S := fun hc w2 =>
      mk_thr0 h ecN_1 (Ca.deep hc (by omega)) fR_refl (fun Y hY hYJ => ⟨_, _, Ca.deep (cs_N1 (IV_L hY).2.1 w2) (by omega), up2_same _ _ _ _, fR_00⟩)
    have bad0 : Ca 25 mX11_cases [vR (some (21, 0, 31)), vI x1, vI x2] (I, S) (.inr 0) (I, exS S) → (0 ≤ x2 ∧ x2 ≤ 5) → ¬(5 ≤ x1 ∧ x1 ≤ 7) → outC c mX11_cases mX12_cases ecN [vI x1, vI x2] I S := fun hc w1 w2 =>
      mk_thr0 h ecN_0 (Ca.deep hc (by omega)) fR_refl (fun Y hY hYJ => ⟨_, _, Ca.deep (cs_N2 (IV_L hY).2.1 w1 w2) (by omega), up2_same _ _ _ _, fR_00⟩)
    by_cases w1 : x2 < 0
    · simp only [if_pos w1] at hc
      exact bad1 hc (by omega)
    simp only [if_neg w1] at hc
    by_cases w2 : x2 ≤ 5
    · simp only [if_pos w2] at hc
      by_cases w3 : x1 < 5
      · simp only [if_pos w3] at hc
        exact bad0 hc (by omega) (by omega)
      simp only [if_neg w3] at hc
      by_cases w4 : x1 ≤ 7
      · exact absurd ⟨⟨by omega, w2⟩, by omega, w4⟩ w
      · simp only [if_neg w4] at hc
        exact bad0 hc (by omega) (by omega)
    · simp only [if_neg w2] at hc
      exact bad1 hc (by omega)
end
end
