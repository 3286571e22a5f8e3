/-! ===== calls that ask: scaled, sends, rule, vertex, chain, planned ===== -/
noncomputable section
section
variable {d : Nat} {I J K X Y Z : Nat → Nat → Int} {S S' : PS} {c T U n P R N A a2 p s : Nat} {dg b : Int}
theorem fR_00 {v w : Int} : fR U Y (up2 (up2 Y 156 0 v) 156 0 w) := fR_trans fR_0 fR_0
theorem lcmp_if (x y : Int) : p_lcmp x y = (if (p_L y).toInt < (p_L x).toInt then (1 : Int) else if (p_L x).toInt = (p_L y).toInt then 0 else -1) := by
  unfold p_lcmp lg_cmp
  by_cases a : p_L x > p_L y
  · rw [if_pos a, if_pos (Int64.lt_iff_toInt_lt.mp a)]
    decide
  · rw [if_neg a, if_neg (fun q => a (Int64.lt_iff_toInt_lt.mpr q))]
    by_cases b : p_L x = p_L y
    · rw [if_pos b, if_pos (congrArg Int64.toInt b)]
      decide
    · rw [if_neg b, if_neg (fun q => b (Int64.toInt_inj.mp q))]
      decide
/-- a long comes back as it was out of an int, where an int holds it -/
theorem lcmp_held (y : Int) : p_lcmp (p_i2l (p_l2i y)) y = 0 ↔ (0 ≤ p_lcmp y (-2147483648) ∧ p_lcmp y 2147483647 ≤ 0) := by
  have e1 : (p_L (p_i2l (p_l2i y))).toInt = (p_L y).toInt.bmod (2 ^ 32) := by
    unfold p_i2l p_l2i p_I
    rw [Int32.ofInt_toInt]
    show (Int64.ofInt ((p_L y).toInt32.toInt64).toInt).toInt = _
    rw [Int64.ofInt_toInt, Int32.toInt_toInt64, Int64.toInt_toInt32]
  have e2 : (p_L (-2147483648)).toInt = -2147483648 := by decide
  have e3 : (p_L 2147483647).toInt = 2147483647 := by decide
  rw [lcmp_if, lcmp_if, lcmp_if, e1, e2, e3]
  generalize (p_L y).toInt = z
  have b1 := Int.le_bmod (x := z) (m := 2 ^ 32) (by decide)
  have b2 := Int.bmod_lt (x := z) (m := 2 ^ 32) (by decide)
  have b3 : -2147483648 ≤ z ∧ z ≤ 2147483647 → z.bmod (2 ^ 32) = z := fun q => Int.bmod_eq_of_le (by omega) (by omega)
  generalize z.bmod (2 ^ 32) = w at *
  by_cases q : -2147483648 ≤ z ∧ z ≤ 2147483647
  · have := b3 q
    subst this
    rw [if_neg (by omega), if_pos rfl]
    refine ⟨fun _ => ⟨?_, ?_⟩, fun _ => rfl⟩ <;> repeat' split <;> omega
  · have hw : w ≠ z := by omega
    constructor
    · intro h
      rw [if_neg hw] at h
      split at h <;> omega
    · intro ⟨h1, h2⟩
      exfalso
      split at h2 <;> first | omega | (split at h2 <;> first | omega | (split at h1 <;> first | omega | (split at h1 <;> omega)))
theorem pu_scaled {x1 x2 : Int} (h : IV c T U n P R N I S) : outC c mX11_scaled mX12_scaled ecR [vI x1, vI x2] I S := by
  obtain ⟨l1, l2, hT⟩ := IV_L h
  obtain ⟨⟨b1, b2, b3⟩, ⟨e1, e2, e3⟩, f1, f2, f3⟩ := fc_IV h
  have ra : ∀ a, a ≠ 152 → roI I T 152 x1 a = I a := fun a ha => up1_o _ ha
  have r4 := ra (T + 4) (by omega)
  have r2 := ra (T + 2) (by omega)
  have r9 := ra 129 (by omega)
  refine (fun hc => ?m1) (c_X11_scaled (d := 0) (I := I) (S := S) (x1 := x1) (x2 := x2) l1 ?_ ?_ ?_ ?_ ?_ ?_ ?_ ?_ ?_)
  case m1 =>
    have mm : ∀ (Y : Nat → Nat → Int) (S' : PS), IV (c + 1) T U n P R N Y S' → Ca 5 mX12_scaled [vR (some (22, 0, 156)), vI x1, vI x2] (Y, S') _ _ := fun Y S' hY => by
      obtain ⟨_, ⟨m1, m2, m3⟩, g1, g2, g3⟩ := fm_IV hY
      refine (fun hm => ?m2) (c_X12_scaled (d := 0) (I := Y) (S := S') (x1 := x1) (x2 := x2) (IV_L hY).2.1 ?_ ?_ ?_ ?_ ?_ ?_)
      case m2 => exact hm
      all_goals (intros; first | omega | exact (g1 x1 (by omega) (by omega)).2 _ (by omega) | exact (g1 x1 (by omega) (by omega)).1 | (have := (g1 x1 (by omega) (by omega)).1; omega) | exact g2 _ (by omega) | skip)
    rw [e3] at hc
    by_cases w1 : 0 ≤ x1 ∧ x1 < (N : Int)
    · obtain ⟨s, hs⟩ : ∃ s : Nat, x1 = (s : Int) := ⟨x1.toNat, by omega⟩
      have hsN : s < N := by omega
      have hv : ∀ Y, yQ I Y → bhC (roI I T 152 x1) (T + 2) 152 129 ((roI I T 152 x1) (T + 4) x1.toNat) ((roI I T 152 x1) (T + 2) 0).toNat = chB (lnI (up2 Y 156 0 0) x1) 0 (Y 161 (10 * x1).toNat) (Y 161 (10 * x1).toNat).toNat := fun Y y => by rw [hs]; exact bh_spot h hsN y
      generalize bhC (roI I T 152 x1) (T + 2) 152 129 ((roI I T 152 x1) (T + 4) x1.toNat) ((roI I T 152 x1) (T + 2) 0).toNat = ch at hc hv
      simp only [if_pos w1] at hc
      have y0 : ∀ Y, (∀ a, a ≠ 191 → Y a = roI I T 152 x1 a) → yQ I Y := fun Y hYJ => yQ_of hYJ (fun a ha => ra a (by omega))
      have z0 : ∀ Y : Nat → Nat → Int, fR U Y (lnI (up2 Y 156 0 0) x1) := fun Y => fR_trans fR_0 fR_ln
      have bad : ∀ Y S', IV (c + 1) T U n P R N Y S' → yQ I Y → ¬(0 ≤ p_lcmp (p_lmul (p_i2l ch) (p_i2l x2)) (-2147483648) ∧ p_lcmp (p_lmul (p_i2l ch) (p_i2l x2)) 2147483647 ≤ 0) → ∃ b K, Ca 60 mX12_scaled [vR (some (22, 0, 156)), vI x1, vI x2] (Y, S') (.inl (some (vI b))) (K, S') ∧ K 156 0 = ecR 2 ∧ fR U Y K := fun Y S' hY y w => by
        have hm := mm Y S' hY
        rw [← hv Y y, (fm_IV hY).2.1.2.2] at hm
        simp only [if_pos w1, if_neg w] at hm
        exact ⟨_, _, Ca.deep hm (by omega), up2_same _ _ _ _, fR_trans (z0 Y) fR_0⟩
      by_cases w2 : p_lcmp (p_i2l (p_l2i (p_lmul (p_i2l ch) (p_i2l x2)))) (p_lmul (p_i2l ch) (p_i2l x2)) = 0
      · simp only [if_pos w2] at hc
        refine mk_ok0 h (Ca.deep hc (by omega)) (fR_ro hT) (fun Y hY hYJ => ?_)
        have hm := mm Y S hY
        rw [← hv Y (y0 Y hYJ), (fm_IV hY).2.1.2.2] at hm
        simp only [if_pos w1, if_pos ((lcmp_held _).mp w2)] at hm
        refine ⟨_, Ca.deep hm (by omega), ?_, z0 Y⟩
        show lnI (up2 Y 156 0 0) x1 156 0 = 0
        unfold lnI
        rw [up1_o _ (by decide), up2_same]
      · simp only [if_neg w2] at hc
        exact mk_thr0 h ecR_2 (Ca.deep hc (by omega)) (fR_ro hT) (fun Y hY hYJ => bad Y _ hY (y0 Y hYJ) (fun q => w2 ((lcmp_held _).mpr q)))
    · simp only [if_neg w1] at hc
      refine mk_thr0 h ecR_1 (Ca.deep hc (by omega)) fR_refl (fun Y hY hYJ => ?_)
      have hm := mm Y _ hY
      rw [(fm_IV hY).2.1.2.2] at hm
      simp only [if_neg w1] at hm
      exact ⟨_, _, Ca.deep hm (by omega), up2_same _ _ _ _, fR_00⟩
  all_goals (intros; first | omega | (rw [r4]; have := (f1 x1 (by omega) (by omega)).1; omega) | (have := (f1 x1 (by omega) (by omega)).1; omega) | exact (f1 x1 (by omega) (by omega)).2 _ (by omega) | (rw [r2]; omega) | (rw [r9]; exact f2 _ (by rw [r2] at *; omega)) | skip)
theorem pu_sends {x1 x2 x3 x4 : Int} (h : IV c T U n P R N I S) : outC c mX11_sends mX12_sends ecA [vI x1, vI x2, vI x3, vI x4] I S := by
  obtain ⟨l1, l2, hT⟩ := IV_L h
  obtain ⟨⟨b1, b2, b3⟩, ⟨e1, e2, e3⟩, f1, f2, f3⟩ := fc_IV h
  have v1 : 0 ≤ I (T + 2) 0 ∧ I (T + 2) 0 ≤ 6 := by omega
  have v2 : ∀ k : Nat, (k : Int) < I (T + 2) 0 → 0 ≤ I 129 k ∧ I 129 k ≤ 99 := fun k hk => f2 k (by omega)
  have mm : ∀ (Y : Nat → Nat → Int) (S' : PS), IV (c + 1) T U n P R N Y S' → _ := fun Y S' hY =>
    have m := fm_IV hY
    c_X12_sends (d := 0) (I := Y) (S := S') (x1 := x1) (x2 := x2) (x3 := x3) (x4 := x4) (IV_L hY).2.1 (fun _ => by have := m.2.1.2.1; omega) (fun _ k hk => m.2.2.2.1 k (by have := m.2.1.2.1; omega))
  by_cases w : ((3 ≤ x1) ∧ (x1 ≤ 9)) ∧ (((3 ≤ x2) ∧ (x2 ≤ 9)) ∧ (((3 ≤ x3) ∧ (x3 ≤ 9)) ∧ ((3 ≤ x4) ∧ (x4 ≤ 9))))
  · have hc := c_X11_sends (d := 0) (I := I) (S := S) l1 (fun _ _ _ _ => v1) (fun _ _ _ _ => v2) w
    refine mk_ok0 h (Ca.deep hc (by omega)) fR_refl (fun Y hY hYJ => ?_)
    have hm := mm Y S hY
    simp only [if_pos w] at hm
    rw [(fm_IV hY).2.1.2.1, ← sn_eq (X := I) (Z := up2 Y 156 0 0) (T := T) (R := R) (b := 0) (rl_IV h rfl rfl (by rw [← hYJ 160 (by decide)]; exact funext (fun j => up2_a _ (by decide))) (fun k _ => by rw [up2_a _ (by decide), hYJ 178 (by decide)])) (by omega), ← e2] at hm
    exact ⟨_, Ca.deep hm (by omega), up2_same _ _ _ _, fR_0⟩
  · have hc := c_X11_sends_t (d := 0) (I := I) (S := S) l1 (fun _ _ _ _ => v1) (fun _ _ _ _ => v2) w
    refine mk_thr0 h (ec := ecA) (by decide) (Ca.deep hc (by omega)) fR_refl (fun Y hY hYJ => ?_)
    have hm := mm Y _ hY
    simp only [if_neg w] at hm
    exact ⟨_, _, Ca.deep hm (by omega), up2_same _ _ _ _, fR_00⟩
theorem pu_rule {x1 x2 : Int} (h : IV c T U n P R N I S) : outC c mX11_rule mX12_rule ecI [vI x1, vI x2] I S := by
  obtain ⟨l1, l2, hT⟩ := IV_L h
  obtain ⟨⟨b1, b2, b3⟩, ⟨e1, e2, e3⟩, f1, f2, f3⟩ := fc_IV h
  have mm : ∀ (Y : Nat → Nat → Int) (S' : PS), IV (c + 1) T U n P R N Y S' → Ca 2 mX12_rule [vR (some (22, 0, 156)), vI x1, vI x2] (Y, S') _ _ := fun Y S' hY => by
    obtain ⟨_, ⟨m1, m2, m3⟩, g1, g2, g3⟩ := fm_IV hY
    refine (fun hm => ?m2) (c_X12_rule (d := 0) (I := Y) (S := S') (x1 := x1) (x2 := x2) (IV_L hY).2.1 ?_ ?_ ?_ ?_ ?_)
    case m2 => exact hm
    all_goals (intros; first | omega | skip)
  by_cases w : (0 ≤ x1 ∧ x1 < (R : Int)) ∧ (0 ≤ x2 ∧ x2 < 8)
  · refine (fun hc => ?m1) (c_X11_rule (d := 0) (I := I) (S := S) (x1 := x1) (x2 := x2) l1 ?_ ?_ ?_ ?_ (by rw [e2]; exact w))
    case m1 =>
      refine mk_ok0 h (Ca.deep hc (by omega)) fR_refl (fun Y hY hYJ => ?_)
      have hm := mm Y S hY
      rw [(fm_IV hY).2.1.2.1] at hm
      have w2 : 0 ≤ x2 ∧ x2 ≤ 7 := by omega
      simp only [if_pos w.1, if_pos w2] at hm
      have ev : (if x2 ≠ 0 then (I ((T + 2) + 1) ((x1 * 8) + x2).toNat : Int) else I 129 x1.toNat) = (if x2 ≠ 0 then (Y 160 ((8 * x1) + x2).toNat : Int) else Y 178 (12 + x1).toNat) := by
        have g := (IV_R h).2.2.2 x1.toNat (by omega)
        by_cases q : x2 ≠ 0
        · rw [if_pos q, if_pos q, hYJ 160 (by decide)]
          have := g.1 x2.toNat (by omega)
          rw [show ((x1 * 8) + x2).toNat = 8 * x1.toNat + x2.toNat by omega, show ((8 * x1) + x2).toNat = 8 * x1.toNat + x2.toNat by omega]
          exact this
        · rw [if_neg q, if_neg q, hYJ 178 (by decide), show (12 + x1).toNat = 12 + x1.toNat by omega]
          exact ((IV_A h).2.1 x1.toNat (by omega)).1
      rw [ev]
      exact ⟨_, Ca.deep hm (by omega), up2_same _ _ _ _, fR_0⟩
    all_goals (intros; first | omega | skip)
  · refine (fun hc => ?m1) (c_X11_rule_t (d := 0) (I := I) (S := S) (x1 := x1) (x2 := x2) l1 ?_ ?_ ?_ ?_ (by rw [e2]; exact w))
    case m1 =>
      refine mk_thr0 h ecI_1 (Ca.deep hc (by omega)) fR_refl (fun Y hY hYJ => ?_)
      have hm := mm Y _ hY
      rw [(fm_IV hY).2.1.2.1] at hm
      by_cases w1 : 0 ≤ x1 ∧ x1 < (R : Int)
      · simp only [if_pos w1, if_neg (show ¬(0 ≤ x2 ∧ x2 ≤ 7) by omega)] at hm
        exact ⟨_, _, Ca.deep hm (by omega), up2_same _ _ _ _, fR_00⟩
      · simp only [if_neg w1] at hm
        exact ⟨_, _, Ca.deep hm (by omega), up2_same _ _ _ _, fR_00⟩
    all_goals (intros; first | omega | skip)
theorem pu_vertex {x1 x2 : Int} (h : IV c T U n P R N I S) : outC c mX11_vertex mX12_vertex ecI [vI x1, vI x2] I S := by
  obtain ⟨l1, l2, hT⟩ := IV_L h
  obtain ⟨⟨b1, b2, b3⟩, ⟨e1, e2, e3⟩, f1, f2, f3⟩ := fc_IV h
  have pc : (0 ≤ x1 ∧ x1 < (P : Int)) → pcR I (T + 7 + 9 * x1.toNat) (I 159) (I 165) x1.toNat := fun w => ((IV_P h).2.2.2 x1.toNat (by omega)).1
  have p15 : (0 ≤ x1 ∧ x1 < (P : Int)) → I (T + 7 + 9 * x1.toNat) 4 ≤ 15 := fun w => by
    obtain ⟨H, s, r, cc, g1, g2, _⟩ := pc w
    omega
  have mm : ∀ (Y : Nat → Nat → Int) (S' : PS), IV (c + 1) T U n P R N Y S' → Ca 2 mX12_vertex [vR (some (22, 0, 156)), vI x1, vI x2] (Y, S') _ _ := fun Y S' hY => by
    obtain ⟨_, ⟨m1, m2, m3⟩, g1, g2, g3⟩ := fm_IV hY
    have pb : (0 ≤ x1 ∧ x1 < (P : Int)) → (0 ≤ Y 159 ((20 * x1) + 9).toNat ∧ Y 159 ((20 * x1) + 9).toNat ≤ 7) ∧ (0 ≤ Y 159 ((20 * x1) + 1).toNat ∧ Y 159 ((20 * x1) + 1).toNat ≤ 7) := fun w => by
      obtain ⟨H, s, r, cc, g1, g2, g3, _⟩ := ((IV_P hY).2.2.2 x1.toNat (by omega)).1
      rw [show ((20 * x1) + 9).toNat = 20 * x1.toNat + 9 by omega, show ((20 * x1) + 1).toNat = 20 * x1.toNat + 1 by omega]
      omega
    refine (fun hm => ?m2) (c_X12_vertex (d := 0) (I := Y) (S := S') (x1 := x1) (x2 := x2) (IV_L hY).2.1 ?_ ?_ ?_ ?_ ?_ ?_)
    case m2 => exact hm
    all_goals (intros; first | omega | exact (pb (by omega)).1 | exact (pb (by omega)).2 | (have := pb (by omega); omega) | skip)
  have hv : ∀ Y : Nat → Nat → Int, (∀ a, a ≠ 191 → Y a = I a) → (0 ≤ x1 ∧ x1 < (P : Int)) → (Y 159 ((20 * x1) + 9).toNat + 1) + Y 159 ((20 * x1) + 1).toNat = I (T + 7 + 9 * x1.toNat) 4 := fun Y hYJ w => by
    obtain ⟨H, s, r, cc, g1, g2, g3, _⟩ := pc w
    rw [hYJ 159 (by decide), show ((20 * x1) + 9).toNat = 20 * x1.toNat + 9 by omega, show ((20 * x1) + 1).toNat = 20 * x1.toNat + 1 by omega]
    omega
  by_cases w : (0 ≤ x1 ∧ x1 < (P : Int)) ∧ (0 ≤ x2 ∧ x2 < I (T + 7 + 9 * x1.toNat) 4)
  · refine (fun hc => ?m1) (c_X11_vertex (d := 0) (I := I) (S := S) (x1 := x1) (x2 := x2) l1 ?_ ?_ ?_ (by rw [e1]; exact w))
    case m1 =>
      refine mk_ok0 h (Ca.deep hc (by omega)) fR_refl (fun Y hY hYJ => ?_)
      have hm := mm Y S hY
      rw [(fm_IV hY).2.1.1, hv Y hYJ w.1] at hm
      simp only [if_pos w.1, if_pos w.2] at hm
      have ev : I ((T + 7 + 9 * x1.toNat) + 2) x2.toNat = Y 165 ((15 * x1) + x2).toNat := by
        have h15 := p15 w.1
        obtain ⟨H, s, r, cc, g1, g2, g3, g4, ⟨g5, _⟩, _⟩ := pc w.1
        rw [hYJ 165 (by decide), show ((15 * x1) + x2).toNat = 15 * x1.toNat + x2.toNat by omega]
        exact (g5 x2.toNat (by omega)).symm
      rw [ev]
      exact ⟨_, Ca.deep hm (by omega), up2_same _ _ _ _, fR_0⟩
    all_goals (intros; first | omega | (have := p15 (by omega); omega) | skip)
  · refine (fun hc => ?m1) (c_X11_vertex_t (d := 0) (I := I) (S := S) (x1 := x1) (x2 := x2) l1 ?_ ?_ ?_ (by rw [e1]; exact w))
    case m1 =>
      refine mk_thr0 h ecI_1 (Ca.deep hc (by omega)) fR_refl (fun Y hY hYJ => ?_)
      have hm := mm Y _ hY
      rw [(fm_IV hY).2.1.1] at hm
      by_cases w1 : 0 ≤ x1 ∧ x1 < (P : Int)
      · rw [hv Y hYJ w1] at hm
        simp only [if_pos w1, if_neg (show ¬(0 ≤ x2 ∧ x2 < I (T + 7 + 9 * x1.toNat) 4) from fun q => w ⟨w1, q⟩)] at hm
        exact ⟨_, _, Ca.deep hm (by omega), up2_same _ _ _ _, fR_00⟩
      · simp only [if_neg w1] at hm
        exact ⟨_, _, Ca.deep hm (by omega), up2_same _ _ _ _, fR_00⟩
    all_goals (intros; first | omega | (have := p15 (by omega); omega) | skip)
theorem pu_chain {x1 x2 : Int} (h : IV c T U n P R N I S) : outC c mX11_chain mX12_chain ecN [vI x1, vI x2] I S := by
  obtain ⟨l1, l2, hT⟩ := IV_L h
  obtain ⟨⟨b1, b2, b3⟩, ⟨e1, e2, e3⟩, f1, f2, f3⟩ := fc_IV h
  have hcA := iS_cAd (IV_S h)
  have mm : ∀ (Y : Nat → Nat → Int) (S' : PS), IV (c + 1) T U n P R N Y S' → Ca 2 mX12_chain [vR (some (22, 0, 156)), vI x1, vI x2] (Y, S') _ _ := fun Y S' hY => by
    obtain ⟨_, ⟨m1, m2, m3⟩, g1, g2, g3⟩ := fm_IV hY
    have s0 := IV_S (IV_r (U := U) hY (fR_0 (v := 0)))
    refine (fun hm => ?m2) (c_X12_chain (d := 0) (I := Y) (S := S') (x1 := x1) (x2 := x2) (IV_L hY).2.1 ?_ ?_ ?_ ?_ ?_)
    case m2 => exact hm
    all_goals (intros; first | omega | exact iS_mSp s0 | exact iS_mNb s0 | skip)
  refine (fun hc => ?m1) (c_X11_chain (d := 0) (I := I) (S := S) (x1 := x1) (x2 := x2) l1 ?_ ?_ ?_)
  case m1 =>
    rw [e3] at hc
    by_cases w1 : 0 ≤ x1 ∧ x1 < (N : Int)
    · obtain ⟨s, hs⟩ : ∃ s : Nat, x1 = (s : Int) := ⟨x1.toNat, by omega⟩
      have hsN : s < N := by omega
      by_cases w2 : 0 ≤ x2 ∧ x2 < 4
      · simp only [if_pos w1, if_pos w2] at hc
        refine mk_ok0 h (Ca.deep hc (by omega)) fR_refl (fun Y hY hYJ => ?_)
        have hm := mm Y S hY
        rw [(fm_IV hY).2.1.2.2] at hm
        simp only [if_pos w1, if_pos (show 0 ≤ x2 ∧ x2 ≤ 3 by omega)] at hm
        have pn := pnt_chC (f := I (127 + 1)) (g := gR I 0) (ne := I (T + 5)) (n := N) (s := s) (c := x2) (adj := adM I) (iA_pnt (IV_A h)) hsN hcA.2.2.1
        have s0 := IV_S (IV_r (U := U) hY (fR_0 (v := 0)))
        have a1 : adM (up2 Y 156 0 0) = adM I := by
          funext u i
          unfold adM
          rw [show up2 Y 156 0 0 161 = I 161 by rw [← hYJ 161 (by decide)]; exact funext (fun j => up2_a _ (by decide))]
        have a3 : gR (up2 Y 156 0 0) 0 = gR I 0 := by
          funext i
          unfold gR
          rw [up2_a _ (by decide), hYJ 178 (by decide)]
        have cm := chM_eq (iS_mAd s0) (b := 0) (s := s) (c := x2) hsN
        rw [a1, a3] at cm
        have g0 : gR I 0 s = Y 178 (0 + x1).toNat := by unfold gR; rw [hYJ 178 (by decide), hs]
        have ev : chC (I (127 + 1)) (I (T + 5)) (N : Int) x1 x2 = (if ¬((Y 178 (0 + x1).toNat ≠ (-1)) ∧ (((0 ≤ x2) ∧ (x2 ≤ 3)) ∧ (Y 178 (0 + x1).toNat ≠ x2))) then (0 : Int) else (chM (up2 Y 156 0 0) 0 x1 x2)) := by
          rw [hs, pn, cm, ← hs, ← g0]
          unfold canS
          by_cases q : gR I 0 s ≠ -1 ∧ (0 ≤ x2 ∧ x2 ≤ 3) ∧ gR I 0 s ≠ x2
          · have d1 : decide (gR I 0 s ≠ -1 ∧ gR I 0 s ≠ x2 ∧ 0 ≤ x2 ∧ x2 < 4) = true := decide_eq_true ⟨q.1, q.2.2, by omega, by omega⟩
            rw [if_pos d1, if_neg (fun z => z q)]
          · have d1 : ¬(decide (gR I 0 s ≠ -1 ∧ gR I 0 s ≠ x2 ∧ 0 ≤ x2 ∧ x2 < 4) = true) := fun z => by
              have z := of_decide_eq_true z
              exact q ⟨z.1, by omega, z.2.1⟩
            rw [if_neg d1, if_pos q]
        rw [ev]
        exact ⟨_, Ca.deep hm (by omega), up2_same _ _ _ _, fR_0⟩
      · simp only [if_pos w1, if_neg w2] at hc
        refine mk_thr0 h ecN_0 (Ca.deep hc (by omega)) fR_refl (fun Y hY hYJ => ?_)
        have hm := mm Y _ hY
        rw [(fm_IV hY).2.1.2.2] at hm
        simp only [if_pos w1, if_neg (show ¬(0 ≤ x2 ∧ x2 ≤ 3) by omega)] at hm
        exact ⟨_, _, Ca.deep hm (by omega), up2_same _ _ _ _, fR_00⟩
    · simp only [if_neg w1] at hc
      refine mk_thr0 h ecN_1 (Ca.deep hc (by omega)) fR_refl (fun Y hY hYJ => ?_)
      have hm := mm Y _ hY
      rw [(fm_IV hY).2.1.2.2] at hm
      simp only [if_neg w1] at hm
      exact ⟨_, _, Ca.deep hm (by omega), up2_same _ _ _ _, fR_00⟩
  all_goals (intros; first | omega | (rename_i u i hu hi; rw [e3] at hu ⊢; exact Int.ofNat_lt.mpr (hcA.2.2.2 u i (by omega) (by rw [hcA.2.2.1 u i (by omega)]; exact hi))) | skip)
theorem pu_planned {x1 : Int} (h : IV c T U n P R N I S) : outC c mX11_planned mX12_planned ecI [vI x1] I S := by
  obtain ⟨l1, l2, hT⟩ := IV_L h
  have mm : ∀ (Y : Nat → Nat → Int) (S' : PS), IV (c + 1) T U n P R N Y S' → _ := fun Y S' hY =>
    c_X12_planned (d := 0) (I := Y) (S := S') (x1 := x1) (IV_L hY).2.1 (fun w _ => by omega)
  by_cases w : (0 ≤ x1) ∧ (x1 ≤ 3)
  · have hc := c_X11_planned (d := 0) (I := I) (S := S) l1 w
    refine mk_ok0 h (Ca.deep hc (by omega)) fR_refl (fun Y hY hYJ => ?_)
    have hm := mm Y S hY
    simp only [if_pos w] at hm
    obtain ⟨n1, n2, n3, n4, n5, n6, n7, n8⟩ := h.2.2.2.2.2.2.2.2.1
    have ev : (if I 147 6 ≠ 0 then ((if x1 = 0 then (I 147 8 : Int) else (if x1 = 1 then (I 147 9 : Int) else (if x1 = 2 then (I 147 10 : Int) else I 147 11))) : Int) else (-1)) = (if Y 156 47 = 0 then ((-1) : Int) else Y 186 x1.toNat) := by
      rw [hYJ 156 (by decide), hYJ 186 (by decide), n4]
      by_cases q : I 156 47 = 0
      · rw [if_neg (fun z => z q), if_pos q]
      · have q1 := n5.resolve_left q
        rw [if_pos q, if_neg q, show (if x1 = 0 then (I 147 8 : Int) else (if x1 = 1 then (I 147 9 : Int) else (if x1 = 2 then (I 147 10 : Int) else I 147 11))) = I 147 (8 + x1.toNat) by
          rcases (show x1 = 0 ∨ x1 = 1 ∨ x1 = 2 ∨ x1 = 3 by omega) with e | e | e | e <;> subst e <;> rfl]
        exact n7 q1 x1.toNat (by omega)
    rw [ev]
    exact ⟨_, Ca.deep hm (by omega), up2_same _ _ _ _, fR_0⟩
  · have hc := c_X11_planned_t (d := 0) (I := I) (S := S) l1 w
    refine mk_thr0 h ecI_1 (Ca.deep hc (by omega)) fR_refl (fun Y hY hYJ => ?_)
    have hm := mm Y _ hY
    simp only [if_neg w] at hm
    exact ⟨_, _, Ca.deep hm (by omega), up2_same _ _ _ _, fR_00⟩
end
end
