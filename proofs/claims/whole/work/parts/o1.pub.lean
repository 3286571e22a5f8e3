/-! ===== calls that try: solve, ways, free, years ===== -/
noncomputable section
section
variable {d : Nat} {I J K X Y Z : Nat → Nat → Int} {S S' : PS} {c T U n P R N A a2 p s : Nat} {dg b : Int}
/-- the copy that is tried -/
theorem wk_pnt (h : IV c T U n P R N I S) : pnt (cpyI I (127 + 1) 0 (145 + 1) 0 4 146) (gR I 0) N ∧ (∀ a, a ≠ 146 → cpyI I (127 + 1) 0 (145 + 1) 0 4 a = I a) ∧ cAd (cpyI I (127 + 1) 0 (145 + 1) 0 4) T N (adM I) := by
  have hT := (IV_L h).2.2
  have o : ∀ a, a ≠ 146 → cpyI I (127 + 1) 0 (145 + 1) 0 4 a = I a := fun a ha => up1_o _ ha
  refine ⟨pnt_4 (iA_pnt (IV_A h)) (fun k hk => ?_), o, ?_⟩
  · unfold cpyI
    rw [up1_same, if_pos (by omega), Nat.sub_zero, Nat.zero_add]
  · have := iS_cAd (IV_S h)
    unfold cAd at this ⊢
    rw [o T (by omega), o (T + 5) (by omega)]
    exact this
theorem fR_try (h : ∀ a, a ≠ 144 → a ≠ 146 → J a = I a) : fR U I J := fR_scr (fun a ha => h a (fun e => ha (by unfold scr; omega)) (fun e => ha (by unfold scr; omega)))
/-- the reference's map and row behind a class's try -/
theorem mR_0 (h : IV c T U n P R N I S) (hY : IV (c + 1) T U n P R N Y S') (e1 : Y 161 = I 161) (e2 : Y 178 = I 178) : mAd (up2 Y 156 0 0) N (adM I) ∧ gR (up2 Y 156 0 0) 0 = gR I 0 ∧ rOk (gR (up2 Y 156 0 0) 0) N := by
  have a1 : adM (up2 Y 156 0 0) = adM I := by
    funext u i
    unfold adM
    rw [show up2 Y 156 0 0 161 = I 161 by rw [← e1]; exact funext (fun j => up2_a _ (by decide))]
  have a2 := iS_mAd (IV_S (IV_r (U := U) hY (fR_0 (v := 0))))
  have a3 : gR (up2 Y 156 0 0) 0 = gR I 0 := by
    funext i
    unfold gR
    rw [up2_a _ (by decide), e2]
  rw [a1] at a2
  exact ⟨a2, a3, by rw [a3]; exact rOk_A (IV_A h)⟩
theorem fR_sv (h1 : ∀ a, a ≠ 178 → a ≠ 180 → a ≠ 181 → a ≠ 156 → K a = Y a) (h2 : ∀ k, k ≠ 44 → K 156 k = Y 156 k) (h3 : ∀ i, i < 18 → K 178 i = Y 178 i) : fR U Y K := ⟨⟨fun a _ b1 b2 b3 _ => h1 a b3 (fun e => b1 (by unfold scr; omega)) (fun e => b1 (by unfold scr; omega)) b2, fun k hk => h2 k (fun e => by subst e; unfold cr at hk; omega), h3⟩, fun a ha => h1 a (by omega) (by omega) (by omega) (by omega), h1 122 (by decide) (by decide) (by decide) (by decide), h1 123 (by decide) (by decide) (by decide) (by decide)⟩
theorem pu_solve {x1 : Int} (h : IV c T U n P R N I S) : outC c mX11_solve mX12_solve ecI [vI x1] I S := by
  obtain ⟨l1, l2, hT⟩ := IV_L h
  obtain ⟨⟨b1, b2, b3⟩, ⟨e1, e2, e3⟩, _⟩ := fc_IV h
  obtain ⟨w1, w2, w3⟩ := wk_pnt h
  have hT' : T = 34 ∨ T = 77 := by omega
  obtain ⟨J, z, a1, a2, a3, a4⟩ := fw_C hT' (ly_X11_e l1) (ly_X11_c l1) N 0 16 _ (gR I 0) (by omega) (by omega) w3 w1
  have ap := c_X8_paintAll (d := 18) (ly_X11_e l1) (ly_X11_c l1) a1
  by_cases w : 0 ≤ x1 ∧ x1 < (N : Int)
  · have hc := c_X11_solve (d := 0) (I := I) (S := S) (x1 := x1) l1 (fun _ => ap) (by rw [e3]; exact w)
    refine mk_ok0 h (Ca.deep hc (by omega)) (fR_try (fun a h1 h2 => by rw [a2 a h2, w2 a h2])) (fun Y hY hYJ => ?_)
    have y1 : Y 161 = I 161 := by rw [hYJ 161 (by decide), a2 161 (by decide), w2 161 (by decide)]
    have y2 : Y 178 = I 178 := by rw [hYJ 178 (by decide), a2 178 (by decide), w2 178 (by decide)]
    obtain ⟨m1, m2, m3⟩ := mR_0 h hY y1 y2
    obtain ⟨K, k1, k2, k3, k4, k5⟩ := sv_first (d := 0) (b1 := True) (IV_L hY).2.1 m1 m3 trivial
    rw [m2] at k1 k2
    have e15 := (fm_IV hY).2.1.2.2
    have hm := c_X12_solve (d := 0) (I := Y) (S := S) (x1 := x1) (IV_L hY).2.1 (fun q => by omega) (fun q _ => by omega) (fun _ => k1)
    rw [e15] at hm
    simp only [if_pos w] at hm
    have ev : (if ¬(z = true) then ((-1) : Int) else (colO (J (145 + 1)) x1)) = (if (if (fwS (adM I) N N 0 (gR I 0)).isSome = true then (1 : Int) else 0) ≠ 0 then (K 178 (18 + x1).toNat : Int) else (-1)) := by
      rw [a3]
      by_cases hz : (fwS (adM I) N N 0 (gR I 0)).isSome = true
      · obtain ⟨x, q⟩ := Option.isSome_iff_exists.mp hz
        rw [if_neg (fun z => z hz), if_pos hz, if_pos (by decide)]
        rw [q] at a4
        obtain ⟨s, hs⟩ : ∃ s : Nat, x1 = (s : Int) := ⟨x1.toNat, by omega⟩
        rw [hs, pnt_col (f := J (145 + 1)) a4 (show s < N by omega)]
        exact (k2 x q s (by omega)).symm
      · rw [if_pos hz, if_neg hz, if_neg (fun z => z rfl)]
    rw [ev]
    exact ⟨K, Ca.deep hm (by omega), by rw [k4 0 (by decide)]; exact up2_same _ _ _ _, fR_trans fR_0 (fR_sv k3 k4 k5)⟩
  · have hc := c_X11_solve_t (d := 0) (I := I) (S := S) (x1 := x1) l1 (fun _ => ap) (by rw [e3]; exact w)
    refine mk_thr0 h ecI_1 (Ca.deep hc (by omega)) fR_refl (fun Y hY hYJ => ?_)
    have e15 := (fm_IV hY).2.1.2.2
    have hm := c_X12_solve (d := 0) (I := Y) (S := exS S) (x1 := x1) (J1 := Y) (z1 := 0) (IV_L hY).2.1 (fun q => by omega) (fun q _ => by omega) (fun q => absurd q (by rw [e15]; exact w))
    rw [e15] at hm
    simp only [if_neg w] at hm
    exact ⟨_, _, Ca.deep hm (by omega), up2_same _ _ _ _, fR_00⟩
theorem pu_ways (h : IV c T U n P R N I S) : outC c mX11_ways mX12_ways ecZ [] I S := by
  obtain ⟨l1, l2, hT⟩ := IV_L h
  obtain ⟨⟨b1, b2, b3⟩, _⟩ := fc_IV h
  obtain ⟨w1, w2, w3⟩ := wk_pnt h
  have hT' : T = 34 ∨ T = 77 := by omega
  obtain ⟨J, a1, a2, a3⟩ := cw_C hT' (ly_X11_e l1) (ly_X11_c l1) N 0 16 _ (gR I 0) (by omega) (by omega) w3 w1
  have ap := c_X8_allWays (d := 18) (ly_X11_e l1) (ly_X11_c l1) a1
  have hc := c_X11_ways (d := 0) (I := I) (S := S) l1 ap
  refine mk_ok0 h (Ca.deep hc (by omega)) (fR_try (fun a h1 h2 => by rw [a2 a h2, w2 a h2])) (fun Y hY hYJ => ?_)
  have y1 : Y 161 = I 161 := by rw [hYJ 161 (by decide), a2 161 (by decide), w2 161 (by decide)]
  have y2 : Y 178 = I 178 := by rw [hYJ 178 (by decide), a2 178 (by decide), w2 178 (by decide)]
  obtain ⟨m1, m2, m3⟩ := mR_0 h hY y1 y2
  obtain ⟨K, k1, k3, k4, k5⟩ := sv_ways (d := 0) (b1 := False) (IV_L hY).2.1 m1 m3 (fun q => q)
  rw [m2] at k1
  exact ⟨K, Ca.deep (c_X12_ways (d := 0) (I := Y) (S := S) (IV_L hY).2.1 k1) (by omega), by rw [k4 0 (by decide)]; exact up2_same _ _ _ _, fR_trans fR_0 (fR_sv k3 k4 k5)⟩
theorem free_n1 {x1 x2 : Int} (hl0 : LyX12 S) (w : ¬(0 ≤ x1 ∧ x1 < I 156 15)) : Ca 4 mX12_free [vR (some (22, 0, 156)), vI x1, vI x2] (I, S) (.inl (some (vI 0))) (up2 (up2 I 156 0 0) 156 0 1, S) :=
  w_X12_free_0 (d := 0) hl0 (fun q => absurd q w) (r1 := fun q => absurd q w) (e1 := fun q => absurd q w) (r2 := fun q => absurd q w) (e2 := fun q => absurd q w) (r3 := fun q => absurd q w) (e3 := fun q => absurd q w) (r4 := fun _ => rfl) (e4 := fun _ => rfl) (v1 := fun q => absurd q w) (v2 := fun q => absurd q w) (v3 := fun q => absurd q w) (v4 := fun q => absurd q w)
theorem free_n2 {x1 x2 : Int} (hl0 : LyX12 S) (w1 : 0 ≤ x1 ∧ x1 < I 156 15) (w : ¬(0 ≤ x2 ∧ x2 ≤ 1)) : Ca 4 mX12_free [vR (some (22, 0, 156)), vI x1, vI x2] (I, S) (.inl (some (vI 0))) (up2 (up2 I 156 0 0) 156 0 1, S) :=
  w_X12_free_0 (d := 0) hl0 (fun _ q => absurd q w) (r1 := fun _ q => absurd q w) (e1 := fun _ q => absurd q w) (r2 := fun _ q => absurd q w) (e2 := fun _ q => absurd q w) (r3 := fun _ _ => rfl) (e3 := fun _ _ => rfl) (r4 := fun q => absurd w1 q) (e4 := fun q => absurd w1 q) (v1 := fun _ q => absurd q w) (v2 := fun _ q => absurd q w) (v3 := fun _ q => absurd q w) (v4 := fun _ q => absurd q w)
theorem years_n1 {x1 x2 x3 : Int} (hl0 : LyX12 S) (w : ¬(0 ≤ x3 ∧ x3 ≤ 2)) : Ca 6 mX12_years [vR (some (22, 0, 156)), vI x1, vI x2, vI x3] (I, S) (.inl (some (vI 0))) (up2 (up2 I 156 0 0) 156 0 1, S) :=
  w_X12_years_0 (d := 0) hl0 (fun q => absurd q w) (r1 := fun q => absurd q w) (e1 := fun q => absurd q w) (r2 := fun _ => rfl) (e2 := fun _ => rfl)
theorem years_n2 {x1 x2 x3 : Int} (hl0 : LyX12 S) (w1 : 0 ≤ x3 ∧ x3 ≤ 2) (w : ¬(0 ≤ x2 ∧ x2 ≤ 100)) : Ca 6 mX12_years [vR (some (22, 0, 156)), vI x1, vI x2, vI x3] (I, S) (.inl (some (vI 0))) (up2 (up2 I 156 0 0) 156 0 2, S) :=
  w_X12_years_0 (d := 0) hl0 (fun _ q => absurd q w) (r1 := fun _ _ => rfl) (e1 := fun _ _ => rfl) (r2 := fun q => absurd w1 q) (e2 := fun q => absurd w1 q)
theorem pu_free {x1 x2 : Int} (h : IV c T U n P R N I S) : outC c mX11_free mX12_free ecI [vI x1, vI x2] I S := by
  obtain ⟨l1, l2, hT⟩ := IV_L h
  obtain ⟨⟨b1, b2, b3⟩, ⟨e1, e2, e3⟩, _⟩ := fc_IV h
  obtain ⟨w1, w2, w3⟩ := wk_pnt h
  have hT' : T = 34 ∨ T = 77 := by omega
  by_cases w : (0 ≤ x1 ∧ x1 < (N : Int)) ∧ (0 ≤ x2 ∧ x2 ≤ 1)
  · obtain ⟨s, hs⟩ : ∃ s : Nat, x1 = (s : Int) := ⟨x1.toNat, by omega⟩
    have hsN : s < N := by omega
    subst hs
    obtain ⟨J, a1, a2, a3, a4, a5, a6⟩ := sf_C (d := 14) (S := S) hT' (ly_X11_e l1) (ly_X11_c l1) hsN w3 w1
    have hc := c_X11_free (d := 0) (I := I) (S := S) (x1 := (s : Int)) (x2 := x2) l1 (fun _ _ _ => a1) (by rw [e3]; exact w)
    refine mk_ok0 h (Ca.deep hc (by omega)) (fR_try (fun a h1 h2 => by rw [a2 a h2 h1, w2 a h2])) (fun Y hY hYJ => ?_)
    have y1 : Y 161 = I 161 := by rw [hYJ 161 (by decide), a2 161 (by decide) (by decide), w2 161 (by decide)]
    have y2 : Y 178 = I 178 := by rw [hYJ 178 (by decide), a2 178 (by decide) (by decide), w2 178 (by decide)]
    have s0 := IV_S hY
    have m1 : mAd Y N (adM I) := by
      have := iS_mAd s0
      have e : adM Y = adM I := by funext u i; unfold adM; rw [y1]
      rw [e] at this
      exact this
    have m2 : gR Y 0 = gR I 0 := by funext i; unfold gR; rw [y2]
    obtain ⟨K, k1, k2⟩ := fe_M (d := 0) (I := Y) (S := S) (x2 := x2) (IV_L hY).2.1 m1 hsN (by rw [m2]; exact rOk_A (IV_A h)) w.2
    rw [m2] at k1
    rw [a4, a5]
    exact ⟨K, Ca.deep k1 (by omega), k2.2.2.1, ⟨⟨fun a _ b1 b2 b3 _ => k2.1 a b3 (fun e => b1 (by unfold scr; omega)) b2, fun k hk => k2.2.2.2 k (fun e => by subst e; unfold cr at hk; omega), k2.2.1⟩, fun a ha => k2.1 a (by omega) (by omega) (by omega), k2.1 122 (by decide) (by decide) (by decide), k2.1 123 (by decide) (by decide) (by decide)⟩⟩
  · have hc := c_X11_free_t (d := 0) (I := I) (S := S) (x1 := x1) (x2 := x2) (J1 := I) l1 (fun q1 q2 q3 => absurd (show (0 ≤ x1 ∧ x1 < (N : Int)) ∧ (0 ≤ x2 ∧ x2 ≤ 1) from ⟨by rw [← e3]; exact q1, q2, q3⟩) w) (by rw [e3]; exact w)
    refine mk_thr0 h ecI_1 (Ca.deep hc (by omega)) fR_refl (fun Y hY hYJ => ?_)
    have e15 := (fm_IV hY).2.1.2.2
    by_cases w4 : 0 ≤ x1 ∧ x1 < (N : Int)
    · have w5 : ¬(0 ≤ x2 ∧ x2 ≤ 1) := fun q => w ⟨w4, q⟩
      exact ⟨0, up2 (up2 Y 156 0 0) 156 0 1, Ca.deep (free_n2 (IV_L hY).2.1 (by rw [e15]; exact w4) w5) (by omega), up2_same _ _ _ _, fR_00⟩
    · exact ⟨0, up2 (up2 Y 156 0 0) 156 0 1, Ca.deep (free_n1 (IV_L hY).2.1 (by rw [e15]; exact w4)) (by omega), up2_same _ _ _ _, fR_00⟩
theorem pu_years {x1 x2 x3 : Int} (h : IV c T U n P R N I S) : outC c mX11_years mX12_years ecN [vI x1, vI x2, vI x3] I S := by
  obtain ⟨l1, l2, hT⟩ := IV_L h
  obtain ⟨⟨b1, b2, b3⟩, ⟨e1, e2, e3⟩, _⟩ := fc_IV h
  obtain ⟨w1, w2, w3⟩ := wk_pnt h
  have hT' : T = 34 ∨ T = 77 := by omega
  by_cases w : 0 ≤ x3 ∧ x3 ≤ 2
  · by_cases w4 : 0 ≤ x2 ∧ x2 ≤ 100
    · obtain ⟨m, hm⟩ : ∃ m : Nat, x2 = (m : Int) := ⟨x2.toNat, by omega⟩
      have hm100 : m ≤ 100 := by omega
      subst hm
      obtain ⟨F, a1, a2⟩ := ly_C (d := 2) (S := S) (seed := x1) hT' (ly_X11_e l1) (ly_X11_c l1) w3 w1 hm100
      have hj : ∀ a, a ≠ 144 → a ≠ 146 → up1 (cpyI I (127 + 1) 0 (145 + 1) 0 4) 146 F a = I a := fun a _ h2 => by rw [up1_o _ h2, w2 a h2]
      have f6 : up1 (cpyI I (127 + 1) 0 (145 + 1) 0 4) 146 F (145 + 1) = F := up1_same _ _ _
      have hc : Ca 6 mX11_years [vR (some (21, 0, 31)), vI x1, vI (m : Int), vI x3] (I, S) (.inl (some (vI (yrV x3 (yrD (adM I) N (gR I 0) x1 m).2 (yrD (adM I) N (gR I 0) x1 m).1 N)))) (up1 (cpyI I (127 + 1) 0 (145 + 1) 0 4) 146 F, S) := by
        unfold yrV
        exact w_X11_years_0 (r := (.inl (some (vI (if x3 ≠ 0 then (if x3 ≠ 1 then clN4 (yrD (adM I) N (gR I 0) x1 m).1 N else (yrD (adM I) N (gR I 0) x1 m).2) else ctG (yrD (adM I) N (gR I 0) x1 m).1 N))), (up1 (cpyI I (127 + 1) 0 (145 + 1) 0 4) 146 F, S))) l1 (fun _ _ _ _ => a1) (fun q => by omega) (fun _ _ q => by omega) (fun _ _ _ _ q1 q2 => by rw [if_pos q1, if_pos q2, f6, unl_eq a2]) (fun _ _ _ _ q1 q2 => by rw [if_pos q1, if_neg (fun z => z q2)]) (fun _ _ _ _ q1 => by rw [if_neg (fun z => z q1), f6, pnt_cnt a2]) (fun _ _ _ q => by omega) (fun _ q => by omega)
      refine mk_ok0 h (Ca.deep hc (by omega)) (fR_try hj) (fun Y hY hYJ => ?_)
      have y1 : Y 161 = I 161 := by rw [hYJ 161 (by decide), hj 161 (by decide) (by decide)]
      have y2 : Y 178 = I 178 := by rw [hYJ 178 (by decide), hj 178 (by decide) (by decide)]
      have m1 : mAd Y N (adM I) := by
        have := iS_mAd (IV_S hY)
        have e : adM Y = adM I := by funext u i; unfold adM; rw [y1]
        rw [e] at this
        exact this
      have m2 : gR Y 0 = gR I 0 := by funext i; unfold gR; rw [y2]
      obtain ⟨K, k1, k2, k3, k4, k5⟩ := yr_M (d := 0) (I := Y) (S := S) (x1 := x1) (x3 := x3) (IV_L hY).2.1 m1 (by rw [m2]; exact rOk_A (IV_A h)) hm100 w
      rw [m2] at k1
      exact ⟨K, Ca.deep k1 (by omega), k4, ⟨⟨fun a _ b1 b2 b3 _ => k2 a b3 b2, fun k hk => k5 k (fun e => by subst e; unfold cr at hk; omega) (fun e => by subst e; unfold cr at hk; omega), k3⟩, fun a ha => k2 a (by omega) (by omega), k2 122 (by decide) (by decide), k2 123 (by decide) (by decide)⟩⟩
    · have hc : Ca 6 mX11_years [vR (some (21, 0, 31)), vI x1, vI x2, vI x3] (I, S) (.inr 0) (I, exS S) := w_X11_years_0 (J1 := I) (z1 := 0) (r := (.inr 0, (I, exS S))) l1 (fun _ _ q1 q2 => absurd ⟨q1, q2⟩ w4) (fun q => by omega) (fun _ _ _ => rfl) (fun _ _ q1 q2 => absurd ⟨q1, q2⟩ w4) (fun _ _ q1 q2 => absurd ⟨q1, q2⟩ w4) (fun _ _ q1 q2 => absurd ⟨q1, q2⟩ w4) (fun _ _ _ _ => rfl) (fun _ q => by omega)
      refine mk_thr0 h ecN_0 (Ca.deep hc (by omega)) fR_refl (fun Y hY hYJ => ?_)
      exact ⟨0, up2 (up2 Y 156 0 0) 156 0 2, Ca.deep (years_n2 (IV_L hY).2.1 w w4) (by omega), up2_same _ _ _ _, fR_00⟩
  · have hc : Ca 6 mX11_years [vR (some (21, 0, 31)), vI x1, vI x2, vI x3] (I, S) (.inr 1) (I, exS S) := w_X11_years_0 (J1 := I) (z1 := 0) (r := (.inr 1, (I, exS S))) l1 (fun q1 q2 => absurd ⟨q1, q2⟩ w) (fun _ => rfl) (fun q1 q2 => absurd ⟨q1, q2⟩ w) (fun q1 q2 => absurd ⟨q1, q2⟩ w) (fun q1 q2 => absurd ⟨q1, q2⟩ w) (fun q1 q2 => absurd ⟨q1, q2⟩ w) (fun q1 q2 => absurd ⟨q1, q2⟩ w) (fun _ _ => rfl)
    refine mk_thr0 h ecN_1 (Ca.deep hc (by omega)) fR_refl (fun Y hY hYJ => ?_)
    exact ⟨0, up2 (up2 Y 156 0 0) 156 0 1, Ca.deep (years_n1 (IV_L hY).2.1 w) (by omega), up2_same _ _ _ _, fR_00⟩
end
end
