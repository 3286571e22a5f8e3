/-! ===== a text is read: both sides, line by line ===== -/
noncomputable section
section
variable {d : Nat} {I J K X Y Y0 : Nat → Nat → Int} {S S2 : PS} {U P R N p n q : Nat} {t : Nat → Int}
theorem stC_dr (h : stC X) (hU : U = 34 ∨ U = 77) (e : drF U X J) : stC J := stC_of h (fun a ha => e a (by omega) (by omega))
theorem strs_dr (h : strs X S) (hU : U = 34 ∨ U = 77) (e : drF U X J) : strs J S := strs_of h (fun a ha => e a (by omega) (by omega))
theorem drF_ad (h : ∀ a, a ≠ 32 → J a = X a) : drF U X J := fun a h1 _ => h a h1
/-- what a text comes to, ahead of what the reference does with it -/
def rdQ (t : Nat → Int) (n U : Nat) (v : Int) (J K : Nat → Nat → Int) : Prop := (v ≠ 0 → K 156 3 = v ∧ K 156 4 = J 32 4) ∧ (v = 0 → K 156 3 = 0 ∧ ∃ P R N, rrR U P R N J K ∧ mmM K = true)
theorem rdF_t (h : rdF Y K) : K 157 = Y 157 := h.1 157 (by decide) (by decide) (by decide) (by decide) (by decide)
theorem rd_L (hU : U = 34 ∨ U = 77) (hl0 : LyX10 S) (hl1 : LyX0 S U) (hl2 : LyX12 S2) (hb : ∀ k, 0 ≤ t k ∧ t k ≤ 255) (hn : n ≤ 700) {x1 : Int} : ∀ (f i q P R N : Nat) (X Y0 : Nat → Nat → Int), n - q < f → i ≤ q → q ≤ n → txR (X 33) t → stC X → strs X S → X 32 1 = (n : Int) → X 32 2 = (q : Int) → rrY t n q U P R N X Y0 → ∃ v J, L_X5_read_8 (d + 1) 32 U 0 (i : Int) X S v (J, S) ∧ drF U X J ∧ ∀ Y, rrY t n q U P R N X Y → ∃ K, rdF Y K ∧ rdQ t n U v J K ∧ ∀ v' h1, L_X12_atlas_117 d 156 x1 K S2 v' h1 → L_X12_atlas_76 d 156 x1 Y S2 v' h1 := by
  intro f
  induction f with
  | zero => intro i q P R N X Y0 h; exact absurd h (by omega)
  | succ f ih =>
    intro i q P R N X Y0 hf hi hq ht hst hss h1 h2 hY0
    obtain ⟨a1, a2, a3⟩ := ad_C (d := d + 5) hl0 ht h1 h2 hn hq
    have hin := tk_in t hq
    have e3 := a2.2.2.2.1
    have F1 : drF U X (adI X) := drF_ad a3
    have ht1 : txR (adI X 33) t := by rw [a3 33 (by decide)]; exact ht
    have hst1 := stC_dr hst hU F1
    have hss1 := strs_dr hss hU F1
    have hp : 0 ≤ adI X 32 4 ∧ adI X 32 4 ≤ 700 ∧ 0 ≤ adI X 32 2 ∧ adI X 32 2 ≤ 700 := by rw [a2.2.2.1, a2.2.1]; omega
    have hR1 : rrR U P R N (adI X) Y0 := rrR_32 hU hY0.1 a3
    have hRY : ∀ Y, rrY t n q U P R N X Y → rrY t n q U P R N (adI X) Y := fun Y h => ⟨rrR_32 hU h.1 a3, h.2⟩
    by_cases k0 : tkK t n q = 0
    · have x3 : adI X 32 3 = 0 := e3.trans k0
      obtain ⟨⟨p1, p2, p3⟩, ⟨z1, z2, z3⟩, _, _, _, hs⟩ := id hR1
      have cm := c_X0_isMap (d := d + 4) (I := adI X) (S := S) (a0 := U) hl1 (by omega) (fun u hu => by
        obtain ⟨g, b1, b2, b3, b4, _⟩ := hs u (by omega)
        refine ⟨by omega, fun k hk => ?_⟩
        rw [show (((u : Int) * 9) + (k : Int)).toNat = 9 * u + k by omega, (b4 k (by omega)).1]
        exact (b4 k (by omega)).2.1)
      refine ⟨if ¬(imC (adI X) U = true) then (6 : Int) else 0, adI X, w_X5_read_8 (J1 := adI X) (J2 := X) (J3 := X) (J4 := X) (J5 := X) (J6 := adI X) (z2 := 0) (z3 := 0) (z4 := 0) (z5 := 0) (z6 := imC (adI X) U) hl0 hl1 (fun _ _ => a1) (fun _ _ w => absurd x3 w) (fun _ _ w => absurd x3 w) (fun _ _ w => absurd x3 w) (fun _ _ w => absurd x3 w) (fun _ _ w => absurd x3 w) (fun _ _ w => absurd x3 w) (fun _ _ w => absurd x3 w) (fun _ _ w => absurd x3 w) (fun _ _ w => absurd x3 w) (fun _ _ _ => cm) (r1 := fun w => absurd w (by omega)) (e1 := fun w => absurd w (by omega)) (r2 := fun _ w => absurd rfl w) (e2 := fun _ w => absurd rfl w) (r3 := fun _ _ _ => rfl) (e3 := fun _ _ _ => rfl) (v1 := fun _ _ w => absurd x3 w) (v2 := fun _ _ w => absurd x3 w), F1, fun Y hY => ?_⟩
      obtain ⟨hRR, hkY, hY3, hYt⟩ := hRY Y hY
      have em := mp_all hRR
      have y8 : Y 156 8 = 0 := hkY.2.2.2.1.trans (msK_0.mpr k0)
      obtain ⟨_, _, ⟨y1, y2, y3⟩, _, _, hsY⟩ := id hRR
      have cM := c_X12_isMap (d := d + 6) (I := Y) (S := S2) hl2 (by omega) (fun u hu => by
        obtain ⟨g, b1, b2, b3, b4, _⟩ := hsY u (by omega)
        rw [show (10 * (u : Int)).toNat = 10 * u by omega, b3]
        refine ⟨by omega, fun k hk => ?_⟩
        rw [show (((10 * (u : Int)) + 1) + (k : Int)).toNat = 10 * u + 1 + k by omega]
        exact (b4 k (by omega)).2.1)
      cases hm : mmM Y with
      | true =>
        rw [hm] at em cM
        refine ⟨Y, rdF_refl, ⟨fun w => absurd (if_neg (fun q => q em)) w, fun _ => ⟨hY3, P, R, N, hRR, hm⟩⟩, fun v' h1 kk => ?_⟩
        exact w_X12_atlas_76 (J1 := Y) hl2 (fun w => absurd hY3 w) (fun _ _ => w_X12_atlas_97 (J1 := Y) (J2 := Y) (z1 := true) hl2 (fun w => absurd hY3 w) (fun _ => cM) (fun _ _ => kk) (fun _ w => absurd rfl w) (fun _ w => absurd rfl w)) (fun _ w => absurd y8 w) (fun _ w => absurd y8 w)
      | false =>
        rw [hm] at em cM
        have w6 := wr_y (d := d + 7) (k := 6) hl2 hY3
        rw [hkY.2.2.1] at w6
        have en : ¬(imC (adI X) U = true) := by rw [em]; decide
        refine ⟨up2 (up2 Y 156 3 6) 156 4 (tkS t n q : Int), rdF_bad, ⟨fun _ => ⟨(if_pos en).symm ▸ rfl, by rw [a2.2.2.1]; exact up2_same _ _ _ _⟩, fun w => absurd w (by rw [if_pos en]; decide)⟩, fun v' h1 kk => ?_⟩
        exact w_X12_atlas_76 (J1 := Y) hl2 (fun w => absurd hY3 w) (fun _ _ => w_X12_atlas_97 (J1 := Y) (J2 := up2 (up2 Y 156 3 6) 156 4 (tkS t n q : Int)) (z1 := false) hl2 (fun w => absurd hY3 w) (fun _ => cM) (fun _ w => absurd w (by decide)) (fun _ _ => w6) (fun _ _ => kk)) (fun _ w => absurd y8 w) (fun _ w => absurd y8 w)
    · have x3 : adI X 32 3 ≠ 0 := fun w => k0 (e3.symm.trans w)
      have i0 : iwC (adI X) 5 4 = true ↔ wdK t n q = 0 := iw_C (k := 0) ht1 hst1 a2 hq (by decide)
      have i1 : iwC (adI X) 4 6 = true ↔ wdK t n q = 1 := iw_C (k := 1) ht1 hst1 a2 hq (by decide)
      have i2 : iwC (adI X) 4 8 = true ↔ wdK t n q = 2 := iw_C (k := 2) ht1 hst1 a2 hq (by decide)
      have i7 : iwC (adI X) 4 10 = true ↔ wdK t n q = 7 := iw_C (k := 7) ht1 hst1 a2 hq (by decide)
      -- what comes behind a line
      have behind : ∀ (v0 : Int) (J0 : Nat → Nat → Int), drF U (adI X) J0 → (∀ Y, rrY t n q U P R N (adI X) Y → ∃ K, Ca (d + 7) mX12_clause [vR (some (22, 0, 156))] (Y, S2) (.inl none) (K, S2) ∧ rdF Y K ∧ lnQ t n q U v0 J0 K) → ∃ v J, L_X5_read_117 (d + 1) 32 U v0 (i : Int) J0 S v (J, S) ∧ drF U X J ∧ ∀ Y, rrY t n q U P R N X Y → ∃ K, rdF Y K ∧ rdQ t n U v J K ∧ ∀ v' h1, L_X12_atlas_117 d 156 x1 K S2 v' h1 → L_X12_atlas_76 d 156 x1 Y S2 v' h1 := by
        intro v0 J0 hF hln
        have go : ∀ Y K v' h1, rrY t n q U P R N X Y → Ca (d + 7) mX12_clause [vR (some (22, 0, 156))] (Y, S2) (.inl none) (K, S2) → L_X12_atlas_76 d 156 x1 K S2 v' h1 → L_X12_atlas_76 d 156 x1 Y S2 v' h1 := fun Y K v' h1 hY c kk => w_X12_atlas_76 (J1 := K) hl2 (fun w => absurd hY.2.2.1 w) (fun _ w => absurd (msK_0.mp (hY.2.1.2.2.2.1.symm.trans w)) k0) (fun _ _ => c) (fun _ _ => kk)
        by_cases v00 : v0 = 0
        · subst v00
          obtain ⟨K0, c0, f0, l0⟩ := hln Y0 (hRY Y0 hY0)
          obtain ⟨q', P', R', N', ⟨q1, q2⟩, j1, j2, hY1⟩ := l0.2 rfl
          obtain ⟨v, J, b1, b2, b3⟩ := ih (i + 1) q' P' R' N' J0 K0 (by omega) (by omega) q2 (by rw [hF 33 (by decide) (by omega), a3 33 (by decide)]; exact ht) (stC_dr hst1 hU hF) (strs_dr hss1 hU hF) j1 j2 hY1
          refine ⟨v, J, w_X5_read_117 hl0 hl1 b1 (v1 := by omega), drF_trans F1 (drF_trans hF b2), fun Y hY => ?_⟩
          obtain ⟨K1, c1, f1, l1⟩ := hln Y (hRY Y hY)
          obtain ⟨q'', P'', R'', N'', ⟨q3, q4⟩, j3, j4, hY2⟩ := l1.2 rfl
          have eq : q'' = q' := by omega
          subst eq
          have eP : P'' = P' := by have := hY1.1.2.1.1; have := hY2.1.2.1.1; omega
          have eR : R'' = R' := by have := hY1.1.2.1.2.1; have := hY2.1.2.1.2.1; omega
          have eN : N'' = N' := by have := hY1.1.2.1.2.2; have := hY2.1.2.1.2.2; omega
          subst eP eR eN
          obtain ⟨K, g1, g2, g3⟩ := b3 K1 hY2
          exact ⟨K, rdF_trans f1 g1, g2, fun v' h1 kk => go Y K1 v' h1 hY c1 (g3 v' h1 kk)⟩
        · refine ⟨v0, J0, w_X5_read_117 hl0 hl1 (w_X5_read_8 (J1 := X) (J2 := X) (J3 := X) (J4 := X) (J5 := X) (J6 := X) (z2 := 0) (z3 := 0) (z4 := 0) (z5 := 0) (z6 := true) hl0 hl1 (fun _ w => absurd w v00) (fun _ w => absurd w v00) (fun _ w => absurd w v00) (fun _ w => absurd w v00) (fun _ w => absurd w v00) (fun _ w => absurd w v00) (fun _ w => absurd w v00) (fun _ w => absurd w v00) (fun _ w => absurd w v00) (fun _ w => absurd w v00) (fun _ w => absurd w v00) (r1 := fun _ => rfl) (e1 := fun _ => rfl) (r2 := fun _ _ => rfl) (e2 := fun _ _ => rfl) (r3 := fun _ w => absurd w v00) (e3 := fun _ w => absurd w v00) (v1 := fun _ w => absurd w v00) (v2 := fun _ w => absurd w v00)) (v1 := by omega), drF_trans F1 hF, fun Y hY => ?_⟩
          obtain ⟨K1, c1, f1, l1⟩ := hln Y (hRY Y hY)
          have l3 := l1.1 v00
          have k3 : ¬(K1 156 3 = 0) := by rw [l3.1]; exact v00
          exact ⟨K1, f1, ⟨fun _ => l3, fun w => absurd w v00⟩, fun v' h1 kk => go Y K1 v' h1 hY c1 (w_X12_atlas_76 (J1 := X) hl2 (fun _ => w_X12_atlas_97 (J1 := X) (J2 := X) (z1 := true) hl2 (fun _ => kk) (fun w => absurd w k3) (fun w => absurd w k3) (fun w => absurd w k3) (fun w => absurd w k3)) (fun w => absurd w k3) (fun w => absurd w k3) (fun w => absurd w k3))⟩
      by_cases w0 : wdK t n q = 0
      · obtain ⟨v0, J0, b1, b2, b3⟩ := ln_P (d := d + 1) hU hl0 hl1 hl2 hb hn hq ht1 a2 w0 k0 hR1
        obtain ⟨v, J, c1, c2, c3⟩ := behind v0 J0 b2 b3
        have y0 := i0.mpr w0
        exact ⟨v, J, w_X5_read_8 (J1 := adI X) (J2 := X) (J3 := X) (J4 := X) (J5 := J0) (J6 := X) (z2 := 0) (z3 := 0) (z4 := 0) (z6 := true) hl0 hl1 (fun _ _ => a1) (fun _ _ _ w => absurd y0 w) (fun _ _ _ w => absurd y0 w) (fun _ _ _ w => absurd y0 w) (fun _ _ _ w => absurd y0 w) (fun _ _ _ w => absurd y0 w) (fun _ _ _ w => absurd y0 w) (fun _ _ _ w => absurd y0 w) (fun _ _ _ _ => b1) (fun _ _ _ _ => c1) (fun _ _ w => absurd w x3) (r1 := fun w => absurd w (by omega)) (e1 := fun w => absurd w (by omega)) (r2 := fun _ w => absurd rfl w) (e2 := fun _ w => absurd rfl w) (r3 := fun _ _ w => absurd w x3) (e3 := fun _ _ w => absurd w x3) (v1 := fun _ _ _ => hss1) (v2 := fun _ _ _ => hp), c2, c3⟩
      · have n0 : ¬(iwC (adI X) 5 4 = true) := fun w => w0 (i0.mp w)
        by_cases w1 : wdK t n q = 1
        · obtain ⟨v0, J0, b1, b2, b3⟩ := ln_J (d := d + 1) hU hl0 hl1 hl2 hb hn hq ht1 a2 w1 k0 hR1
          obtain ⟨v, J, c1, c2, c3⟩ := behind v0 J0 b2 b3
          have y1 := i1.mpr w1
          exact ⟨v, J, w_X5_read_8 (J1 := adI X) (J2 := X) (J3 := X) (J4 := J0) (J5 := X) (J6 := X) (z2 := 0) (z3 := 0) (z5 := 0) (z6 := true) hl0 hl1 (fun _ _ => a1) (fun _ _ _ _ w => absurd y1 w) (fun _ _ _ _ w => absurd y1 w) (fun _ _ _ _ w => absurd y1 w) (fun _ _ _ _ w => absurd y1 w) (fun _ _ _ _ w => absurd y1 w) (fun _ _ _ _ _ => b1) (fun _ _ _ _ _ => c1) (fun _ _ _ w => absurd w n0) (fun _ _ _ w => absurd w n0) (fun _ _ w => absurd w x3) (r1 := fun w => absurd w (by omega)) (e1 := fun w => absurd w (by omega)) (r2 := fun _ w => absurd rfl w) (e2 := fun _ w => absurd rfl w) (r3 := fun _ _ w => absurd w x3) (e3 := fun _ _ w => absurd w x3) (v1 := fun _ _ _ => hss1) (v2 := fun _ _ _ => hp), c2, c3⟩
        · have n1 : ¬(iwC (adI X) 4 6 = true) := fun w => w1 (i1.mp w)
          by_cases w2 : wdK t n q = 2
          · obtain ⟨v0, J0, b1, b2, b3⟩ := ln_R (d := d + 1) hU hl0 hl1 hl2 hb hn hq ht1 hst1 hss1 a2 w2 k0 hR1
            obtain ⟨v, J, c1, c2, c3⟩ := behind v0 J0 b2 b3
            have y2 := i2.mpr w2
            exact ⟨v, J, w_X5_read_8 (J1 := adI X) (J2 := X) (J3 := J0) (J4 := X) (J5 := X) (J6 := X) (z2 := 0) (z4 := 0) (z5 := 0) (z6 := true) hl0 hl1 (fun _ _ => a1) (fun _ _ _ _ _ w => absurd y2 w) (fun _ _ _ _ _ w => absurd y2 w) (fun _ _ _ _ _ w => absurd y2 w) (fun _ _ _ _ _ _ => b1) (fun _ _ _ _ _ _ => c1) (fun _ _ _ _ w => absurd w n1) (fun _ _ _ _ w => absurd w n1) (fun _ _ _ w => absurd w n0) (fun _ _ _ w => absurd w n0) (fun _ _ w => absurd w x3) (r1 := fun w => absurd w (by omega)) (e1 := fun w => absurd w (by omega)) (r2 := fun _ w => absurd rfl w) (e2 := fun _ w => absurd rfl w) (r3 := fun _ _ w => absurd w x3) (e3 := fun _ _ w => absurd w x3) (v1 := fun _ _ _ => hss1) (v2 := fun _ _ _ => hp), c2, c3⟩
          · have n2 : ¬(iwC (adI X) 4 8 = true) := fun w => w2 (i2.mp w)
            by_cases w7 : wdK t n q = 7
            · obtain ⟨v0, J0, b1, b2, b3⟩ := ln_S (d := d + 1) hU hl0 hl1 hl2 hb hn hq ht1 a2 w7 k0 hR1
              obtain ⟨v, J, c1, c2, c3⟩ := behind v0 J0 b2 b3
              have y7 := i7.mpr w7
              exact ⟨v, J, w_X5_read_8 (J1 := adI X) (J2 := J0) (J3 := X) (J4 := X) (J5 := X) (J6 := X) (z3 := 0) (z4 := 0) (z5 := 0) (z6 := true) hl0 hl1 (fun _ _ => a1) (fun _ _ _ _ _ _ w => absurd y7 w) (fun _ _ _ _ _ _ _ => b1) (fun _ _ _ _ _ _ _ => c1) (fun _ _ _ _ _ w => absurd w n2) (fun _ _ _ _ _ w => absurd w n2) (fun _ _ _ _ w => absurd w n1) (fun _ _ _ _ w => absurd w n1) (fun _ _ _ w => absurd w n0) (fun _ _ _ w => absurd w n0) (fun _ _ w => absurd w x3) (r1 := fun w => absurd w (by omega)) (e1 := fun w => absurd w (by omega)) (r2 := fun _ w => absurd rfl w) (e2 := fun _ w => absurd rfl w) (r3 := fun _ _ w => absurd w x3) (e3 := fun _ _ w => absurd w x3) (v1 := fun _ _ _ => hss1) (v2 := fun _ _ _ => hp), c2, c3⟩
            · have n7 : ¬(iwC (adI X) 4 10 = true) := fun w => w7 (i7.mp w)
              obtain ⟨v, J, c1, c2, c3⟩ := behind 1 (adI X) (fun _ _ _ => rfl) (fun Y hY => by
                obtain ⟨hRR, hkY, hY3, hYt⟩ := hY
                obtain ⟨⟨p1, _, _⟩, _, ⟨y1, _, _⟩, _⟩ := id hRR
                have kw := kw_M hkY hq
                have g8 := wr_y (d := d + 6) (k := 1) hl2 hY3
                rw [hkY.2.2.1] at g8
                exact ⟨up2 (up2 Y 156 3 1) 156 4 (tkS t n q : Int), cl_no (J8 := up2 (up2 Y 156 3 1) 156 4 (tkS t n q : Int)) hl2 (by rw [kw]; exact w0) (by rw [kw]; exact w1) (by rw [kw]; exact w2) (by rw [kw]; exact w7) (by omega) g8 (c1_bad hl2 (fun w => absurd w (show ¬((1 : Int) = 0) by decide))), rdF_bad, fun _ => ⟨rfl, by rw [a2.2.2.1]; exact up2_same _ _ _ _⟩, fun w => absurd w (by decide)⟩)
              exact ⟨v, J, w_X5_read_8 (J1 := adI X) (J2 := X) (J3 := X) (J4 := X) (J5 := X) (J6 := X) (z2 := 0) (z3 := 0) (z4 := 0) (z5 := 0) (z6 := true) hl0 hl1 (fun _ _ => a1) (fun _ _ _ _ _ _ _ => c1) (fun _ _ _ _ _ _ w => absurd w n7) (fun _ _ _ _ _ _ w => absurd w n7) (fun _ _ _ _ _ w => absurd w n2) (fun _ _ _ _ _ w => absurd w n2) (fun _ _ _ _ w => absurd w n1) (fun _ _ _ _ w => absurd w n1) (fun _ _ _ w => absurd w n0) (fun _ _ _ w => absurd w n0) (fun _ _ w => absurd w x3) (r1 := fun w => absurd w (by omega)) (e1 := fun w => absurd w (by omega)) (r2 := fun _ w => absurd rfl w) (e2 := fun _ w => absurd rfl w) (r3 := fun _ _ w => absurd w x3) (e3 := fun _ _ w => absurd w x3) (v1 := fun _ _ _ => hss1) (v2 := fun _ _ _ => hp), c2, c3⟩
end
end
