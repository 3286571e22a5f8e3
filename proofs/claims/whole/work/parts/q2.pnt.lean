/-! ===== paint ===== -/
noncomputable section
section
variable {d : Nat} {I J K X Y Z : Nat → Nat → Int} {S S' : PS} {c T U n P R N A p r s : Nat} {kd pl vl : Int}
theorem frF_fr (e1 : Y 161 = I 161) (e2 : Y 178 = I 178) (b x : Int) : ∀ k, frF Y b x k = frF I b x k
  | 0 => rfl
  | k + 1 => by
    unfold frF
    rw [e1, e2, frF_fr e1 e2 b x k]
theorem gR_r0 : gR I 0 = I 178 := by
  funext i
  unfold gR
  rw [show ((0 : Int) + (i : Int)).toNat = i by omega]
theorem may_C (h : IV c T U n P R N I S) (hs : s < N) {g : Nat} (hg : g < 4) : ((p_and (p_shr (p_or (p_or (p_or (I (127 + 1) 0) (I (127 + 1) 1)) (I (127 + 1) 2)) (I (127 + 1) 3)) (s : Int)) 1 = 0) ∧ (p_and (I (127 + 1) g) (I (T + 5) s) = 0)) ↔ (I 178 s = -1 ∧ frP (adM I) (I 178) N s (g : Int) = true) := by
  have hp := (IV_A h).1
  have hA := iS_cAd (IV_S h)
  exact and_congr (pnt_any0 hp hs) (pnt_free hp hg (fun i _ => hA.2.2.1 s i hs))
theorem may_M (h : IV c T U n P R N I S) (e1 : Y 161 = I 161) (e2 : Y 178 = I 178) (hs : s < N) {g : Nat} (hg : g < 4) : p_and (p_shr (frF (up2 Y 156 0 0) 0 (s : Int) (Y 161 (10 * (s : Int)).toNat).toNat) (g : Int)) 1 = 1 ↔ frP (adM I) (I 178) N s (g : Int) = true := by
  have e := frF_tst (I := I) (iS_mAd (IV_S h)) hs (b := 0) (rOk_A (IV_A h)) hg
  rw [gR_r0] at e
  rw [frF_fr (I := I) (Y := up2 Y 156 0 0) (by rw [← e1]; exact funext (fun j => up2_a _ (by decide))) (by rw [← e2]; exact funext (fun j => up2_a _ (by decide))), e1]
  exact e
theorem pu_paint {x1 x2 : Int} (h : IV c T U n P R N I S) (hcc : c ≤ 1000000) : outC c mX11_paint mX12_paint ecI [vI x1, vI x2] I S := by
  obtain ⟨l1, l2, hT⟩ := IV_L h
  obtain ⟨⟨b1, b2, b3⟩, ⟨e1, e2, e3⟩, f1, f2, f3⟩ := fc_IV h
  obtain ⟨_, ⟨m1, m2, m3⟩, g1, _⟩ := fm_IV h
  have hac := acts_in h
  have hrf := refd_in h hcc 1 (by decide)
  have mm : ∀ (Y : Nat → Nat → Int) (S' : PS), LyX12 S' → Y 156 = I 156 → Y 158 = I 158 → Y 161 = I 161 → Y 178 = I 178 → Ca 4 mX12_paint [vR (some (22, 0, 156)), vI x1, vI x2] (Y, S') _ _ := fun Y S' l2' y6 y8 y1 y7 => by
    have k15 : (kpI (up2 Y 156 0 0)) 156 15 = (N : Int) := by rw [kpI_156 (by decide), up2_k _ (by decide), y6]; exact m3
    refine (fun hm => ?m2) (c_X12_paint (d := 0) (I := Y) (S := S') (x1 := x1) (x2 := x2) l2' ?_ ?_ ?_ ?_ ?_ ?_ ?_ ?_ ?_ ?_)
    case m2 =>
      rw [k15, y6, m3] at hm
      exact hm
    all_goals (rw [y6, m3])
    all_goals (intros; first | omega | exact Or.inl rfl | (rw [y1]; have := (g1 x1 (by omega) (by omega)).1; omega) | (rw [y1] at *; exact (g1 x1 (by omega) (by omega)).2 _ (by assumption)) | (rw [k15]; omega) | (rw [y8]; omega) | skip)
  by_cases w : 0 ≤ x1 ∧ x1 < (N : Int)
  · obtain ⟨s, hs⟩ : ∃ s : Nat, x1 = (s : Int) := ⟨x1.toNat, by omega⟩
    have hsN : s < N := by omega
    subst hs
    have hp := (IV_A h).1
    have hX : ∀ g : Int, (up2 I (127 + 1) x2.toNat g) 126 2 = I 126 2 := fun g => up2_a _ (by decide)
    refine (fun hc => ?m1) (c_X11_paint (d := 0) (I := I) (S := S) (x1 := (s : Int)) (x2 := x2) l1 ?_ ?_ ?_ ?_ ?_ ?_)
    case m1 =>
      rw [e3] at hc
      simp only [if_pos w] at hc
      rw [Int.toNat_natCast] at hc
      by_cases w2 : (0 ≤ x2 ∧ x2 < 4) ∧ I 178 s = -1 ∧ frP (adM I) (I 178) N s x2 = true
      · obtain ⟨g, hg⟩ : ∃ g : Nat, x2 = (g : Int) := ⟨x2.toNat, by omega⟩
        have hg4 : g < 4 := by omega
        subst hg
        have hq := (may_C h hsN hg4).mpr w2.2
        rw [Int.toNat_natCast] at hc
        have w3 : ((0 : Int) ≤ (g : Int) ∧ (g : Int) < 4) ∧ ((p_and (p_shr (p_or (p_or (p_or (I (127 + 1) 0) (I (127 + 1) 1)) (I (127 + 1) 2)) (I (127 + 1) 3)) (s : Int)) 1 = 0) ∧ (p_and (I (127 + 1) g) (I (T + 5) s) = 0)) := ⟨w2.1, hq⟩
        simp only [if_pos w3] at hc
        obtain ⟨X, hX0⟩ : ∃ X, X = up2 I (127 + 1) g (p_or (I (127 + 1) g) (p_shl 1 (s : Int))) := ⟨_, rfl⟩
        have hpX : pnt (X 128) (up1 (I 178) s (g : Int)) N := by
          have := pnt_put hp hsN hg4 w2.2.1
          rw [hX0, up2_up1, up1_same]
          exact this
        rw [← hX0] at hc
        have hc' : Ca 2 mX11_paint [vR (some (21, 0, 31)), vI (s : Int), vI (g : Int)] (I, S) (.inl (some (vI (bcn (p_or (p_or (p_or (kaI X 0 (s : Int) (g : Int) (127 + 1) 0) (kaI X 0 (s : Int) (g : Int) (127 + 1) 1)) (kaI X 0 (s : Int) (g : Int) (127 + 1) 2)) (kaI X 0 (s : Int) (g : Int) (127 + 1) 3)) 32)))) (kaI X 0 (s : Int) (g : Int), S) := hc
        rw [kaI_o (a := 127 + 1) (by decide) (by decide), pnt_cnt hpX] at hc'
        have xo : ∀ a, a ≠ 128 → X a = I a := fun a ha => by rw [hX0]; exact funext (fun j => up2_a _ ha)
        refine mk_mut (T := T) (U := U) (n := n) (P := P) (R := R) (N := N) (Ca.deep hc' (by omega)) (fun Y hYJ => ?_)
        have yk : ∀ a, a ≠ 191 → a ≠ 126 → ¬(128 ≤ a ∧ a ≤ 132) → Y a = I a := fun a h1 h2 h3 => by rw [hYJ a h1, kaI_o h2 (by omega), xo a (by omega)]
        have y178 := yk 178 (by decide) (by decide) (by decide)
        have hm := mm Y S l2 (yk 156 (by decide) (by decide) (by decide)) (yk 158 (by decide) (by decide) (by decide)) (yk 161 (by decide) (by decide) (by decide)) y178
        have w4 : (Y 178 (0 + (s : Int)).toNat = (-1)) ∧ (((0 : Int) ≤ (g : Int) ∧ (g : Int) ≤ 3) ∧ (p_and (p_shr (frF (up2 Y 156 0 0) 0 (s : Int) (Y 161 (10 * (s : Int)).toNat).toNat) (g : Int)) 1 = 1)) := ⟨by rw [y178, show (0 + (s : Int)).toNat = s by omega]; exact w2.2.1, by omega, (may_M h (yk 161 (by decide) (by decide) (by decide)) y178 hsN hg4).mpr w2.2.2⟩
        simp only [if_pos w, if_pos w4] at hm
        rw [Int.toNat_natCast, Int.toNat_natCast] at hm
        have ev : cntP (up2 (kpI (up2 Y 156 0 0)) 178 s (g : Int)) 0 N = ctG (up1 (I 178) s (g : Int)) N := by
          rw [cntP_ct, gR_r0]
          refine ctG_congr (fun i _ => ?_)
          by_cases e : i = s
          · rw [e, up2_same, up1_same]
          · rw [up2_k _ e, up1_o _ e, kpI_o (by decide) (by decide), up2_a _ (by decide), y178]
        rw [ev] at hm
        obtain ⟨k1, k2⟩ := act_IV (Y := Y) (X := X) (kd := 0) (pl := (s : Int)) (vl := (g : Int)) (w := (g : Int)) (i := s) h (xo 126 (by decide)) (fun a h1 _ => xo a h1) hYJ (Or.inl ⟨rfl, s, g, ⟨hsN, hg4⟩, ⟨rfl, rfl⟩, up1_same _ _ _, fun i hi => by
            by_cases e : i = s
            · rw [e, up1_same]; exact w2.2.1
            · rw [up1_o _ e, up1_o _ e], fun j hj => (up1_o _ (by have := (IV_S h).1; omega)).symm⟩) hpX (fun r hr => by
            have g := (IV_A h).2.1 r hr
            have hN := (IV_S h).1
            rw [up1_o _ (show 12 + r ≠ s by omega), xo 129 (by decide)]
            exact g)
        exact ⟨_, Ca.deep hm (by omega), k2, kp_191, yk 0 (by decide) (by decide) (by decide), k1⟩
      · have w3 : ¬((0 ≤ x2 ∧ x2 < 4) ∧ ((p_and (p_shr (p_or (p_or (p_or (I (127 + 1) 0) (I (127 + 1) 1)) (I (127 + 1) 2)) (I (127 + 1) 3)) (s : Int)) 1 = 0) ∧ (p_and (I (127 + 1) x2.toNat) (I (T + 5) s) = 0))) := fun z => w2 (by
          obtain ⟨g, hg⟩ : ∃ g : Nat, x2 = (g : Int) := ⟨x2.toNat, by omega⟩
          subst hg
          have := (may_C h hsN (show g < 4 by omega)).mp (by have := z.2; rw [Int.toNat_natCast] at this; exact this)
          exact ⟨z.1, this⟩)
        simp only [if_neg w3] at hc
        refine mk_mut (T := T) (U := U) (n := n) (P := P) (R := R) (N := N) (Ca.deep hc (by omega)) (fun Y hYJ => ?_)
        have yk : ∀ a, a ≠ 191 → a ≠ 155 → Y a = I a := fun a h1 h2 => by
          rw [hYJ a h1]
          exact funext (fun j => up2_a _ h2)
        have y178 := yk 178 (by decide) (by decide)
        have hm := mm Y S l2 (yk 156 (by decide) (by decide)) (yk 158 (by decide) (by decide)) (yk 161 (by decide) (by decide)) y178
        have w4 : ¬((Y 178 (0 + (s : Int)).toNat = (-1)) ∧ ((0 ≤ x2 ∧ x2 ≤ 3) ∧ (p_and (p_shr (frF (up2 Y 156 0 0) 0 (s : Int) (Y 161 (10 * (s : Int)).toNat).toNat) x2) 1 = 1))) := fun z => w2 (by
          obtain ⟨g, hg⟩ : ∃ g : Nat, x2 = (g : Int) := ⟨x2.toNat, by omega⟩
          subst hg
          have z1 := z.1
          rw [y178, show (0 + (s : Int)).toNat = s by omega] at z1
          exact ⟨by omega, z1, (may_M h (yk 161 (by decide) (by decide)) y178 hsN (show g < 4 by omega)).mp z.2.2⟩)
        simp only [if_pos w, if_neg w4] at hm
        exact ⟨_, Ca.deep hm (by omega), by rw [up2_a _ (by decide), up2_same], funext (fun j => by rw [up2_a _ (by decide), up2_a _ (by decide)]), yk 0 (by decide) (by decide), rfs_ok h (by decide) hYJ⟩
    all_goals (intros; first | omega | (rw [hX] at *; omega) | skip)
  · refine (fun hc => ?m1) (c_X11_paint (d := 0) (I := I) (S := S) (x1 := x1) (x2 := x2) l1 ?_ ?_ ?_ ?_ ?_ ?_)
    case m1 =>
      rw [e3] at hc
      simp only [if_neg w] at hc
      refine mk_thr0 h (ec := ecI) (by decide) (Ca.deep hc (by omega)) fR_refl (fun Y hY hYJ => ?_)
      have hm := mm Y (exS S) (IV_L hY).2.1 (hYJ 156 (by decide)) (hYJ 158 (by decide)) (hYJ 161 (by decide)) (hYJ 178 (by decide))
      simp only [if_neg w] at hm
      exact ⟨_, _, Ca.deep hm (by omega), up2_same _ _ _ _, fR_00⟩
    all_goals (intros; first | omega | skip)
end
end
