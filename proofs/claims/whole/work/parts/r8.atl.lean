/-! ===== the atlas: the public call ===== -/
noncomputable section
section
variable {d : Nat} {I J K X Y Z : Nat → Nat → Int} {S S' : PS} {c T U n P R N p r s m q : Nat} {x1 : Int} {t : Nat → Int}
theorem pq_pc {A : Nat} {M E : Nat → Int} (h : pcR J A M E p) : ∃ r s, pqR M p r s ∧ J A 3 = (r : Int) ∧ J A 1 = (s : Int) := by
  obtain ⟨H, s, r, cc, ⟨e1, e2, e3, e4⟩, ⟨g1, g2, g3, g4, g5⟩, ⟨m1, m2, m3, m4⟩, _⟩ := h
  exact ⟨r, s, ⟨by omega, by omega, m3, m2, by omega, by omega⟩, g3, g2⟩
theorem pu_atlas (h : IV c T U n P R N I S) (hcc : c ≤ 1000000) : outC c mX11_atlas mX12_atlas ecA [vI x1] I S := by
  obtain ⟨l1, l2, hT⟩ := IV_L h
  obtain ⟨t1, t2, t3, t4⟩ := h.2.1
  by_cases w : ¬(0 ≤ x1 ∧ x1 ≤ (n : Int))
  · have hc : Ca 8 mX11_atlas [vR (some (21, 0, 31)), vI x1] (I, S) (.inr 0) (I, exS S) := Ca.of rfl rfl (bt_X11_atlas_0 (c_X11_takeTape_t (d := 6) l1 (by rw [t2]; exact w)) rfl)
    refine mk_thr0 h ecA_0 (Ca.deep hc (by omega)) fR_refl (fun Y hY hYJ => ?_)
    exact ⟨0, _, Ca.deep (at_N (IV_L hY).2.1 (by rw [hY.2.1.2.2.1]; exact w)) (by omega), up2_same _ _ _ _, fR_00⟩
  have w := Classical.not_not.mp w
  obtain ⟨m, hm⟩ : ∃ m : Nat, x1 = (m : Int) := ⟨x1.toNat, by omega⟩
  subst hm
  have hm7 : m ≤ 700 := by omega
  have hU' : U = 34 ∨ U = 77 := by omega
  obtain ⟨gr, gs1, gs2, gs3⟩ := IV_G h
  have hb : ∀ k, 0 ≤ I 157 k ∧ I 157 k ≤ 255 := fun k => (t4 k).1
  obtain ⟨B, hB⟩ : ∃ B, B = up2 (up2 (up2 I 31 1 0) 32 1 (p_min (m : Int) 700)) 32 2 0 := ⟨_, rfl⟩
  have ct := c_X11_takeTape (d := 6) (I := I) (S := S) (x1 := (m : Int)) l1 (by rw [t2]; exact w)
  rw [← hB] at ct
  have bo : ∀ a, a ≠ 31 → a ≠ 32 → B a = I a := fun a h1 h2 => by
    rw [hB]
    exact funext (fun j => by rw [up2_a _ h2, up2_a _ h2, up2_a _ h1])
  have b31 : ∀ k, k ≠ 1 → B 31 k = I 31 k := fun k hk => by rw [hB, up2_a _ (by decide), up2_a _ (by decide), up2_k _ hk]
  have b311 : B 31 1 = 0 := by rw [hB, up2_a _ (by decide), up2_a _ (by decide), up2_same]
  have b321 : B 32 1 = (m : Int) := by
    rw [hB, up2_k _ (by decide), up2_same, p_min_eq (by omega) (by omega)]
    omega
  have b322 : B 32 2 = 0 := by rw [hB, up2_same]
  obtain ⟨X, hX⟩ : ∃ X, X = up2 (up2 (up2 B U 1 0) (U + 2) 0 0) U 6 0 := ⟨_, rfl⟩
  have xo : ∀ a, a ≠ U → a ≠ U + 2 → X a = B a := fun a h1 h2 => by
    rw [hX]
    exact funext (fun j => by rw [up2_a _ h1, up2_a _ h2, up2_a _ h1])
  have hx0 : X U 1 = 0 ∧ X (U + 2) 0 = 0 ∧ X U 6 = 0 := by
    rw [hX]
    refine ⟨?_, ?_, up2_same _ _ _ _⟩
    · rw [up2_k _ (by decide), up2_a _ (by omega), up2_same]
    · rw [up2_a _ (by omega), up2_same]
  have tx : txR (X 33) (I 157) := by rw [xo 33 (by omega) (by omega), bo 33 (by decide) (by decide)]; exact t4
  have sX : stC X := stC_of gs2 (fun a ha => by rw [xo a (by omega) (by omega), bo a (by omega) (by omega)])
  have ssX : strs X S := strs_of gs3 (fun a ha => by rw [xo a (by omega) (by omega), bo a (by omega) (by omega)])
  have x321 : X 32 1 = (m : Int) := by rw [xo 32 (by omega) (by omega)]; exact b321
  have x322 : X 32 2 = ((0 : Nat) : Int) := by rw [xo 32 (by omega) (by omega)]; exact b322
  have y157 : ∀ Q : Nat → Nat → Int, Q 157 = I 157 → (up2 Q 156 0 0) 157 = I 157 := fun Q e => (funext (fun j => up2_a _ (by decide))).trans e
  obtain ⟨_, y02, _, _⟩ := at_go (S := S) (Y := up2 I 156 0 0) (t := I 157) (m := m) (U := U) (X := X) l2 (y157 I rfl) hb hm7 hx0
  have RD := fun (S2 : PS) (hl2 : LyX12 S2) => rd_L (d := 0) (S := S) (S2 := S2) (t := I 157) (n := m) (U := U) hU' (ly_X11_t l1) (ly_X11_d l1) hl2 hb hm7 (x1 := (m : Int)) 701 0 0 0 0 0 X _ (by omega) (Nat.le_refl 0) (Nat.zero_le m) tx sX ssX x321 x322 y02
  obtain ⟨v, J, c1, c2, c3⟩ := RD S l2
  have crd : Ca 7 mX5_read [vR (some (20, 0, 32)), vR (some (11, 0, U))] (B, S) (.inl (some (vI v))) (J, S) := w_X5_read_0 (d := 1) (ly_X11_t l1) (ly_X11_d l1) (by rw [← hX]; exact c1)
  have jb : ∀ a, a ≠ 32 → ¬(U ≤ a ∧ a < U + 43) → J a = B a := fun a h1 h2 => by rw [c2 a h1 h2]; exact xo a (by omega) (by omega)
  have ji : ∀ a, a ≠ 31 → a ≠ 32 → ¬(U ≤ a ∧ a < U + 43) → J a = I a := fun a h1 h2 h3 => by rw [jb a h2 h3]; exact bo a h1 h2
  have j31 : J 31 = B 31 := jb 31 (by decide) (by omega)
  have hmY : ∀ Q : Nat → Nat → Int, Q 156 = I 156 → (m : Int) ≤ Q 156 2 := fun Q e => by rw [e, t3]; omega
  obtain ⟨f1, f2⟩ := h.2.2.1
  by_cases hv : v ≠ 0
  · -- the text is refused
    have i155 : (up2 J 31 15 (J 32 4)) 155 0 = I 155 0 := by rw [up2_a _ (by decide), ji 155 (by decide) (by decide) (by omega)]
    have fb := f2 0 (by decide)
    obtain ⟨J', hJ'⟩ : ∃ J', J' = up2 (up2 J 31 15 (J 32 4)) 155 0 ((up2 J 31 15 (J 32 4)) 155 0 + 1) := ⟨_, rfl⟩
    have hc : Ca 8 mX11_atlas [vR (some (21, 0, 31)), vI (m : Int)] (I, S) (.inl (some (vI v))) (J', S) := by
      rw [hJ']
      exact Ca.of rfl rfl (b_X11_atlas_0 ct (b_X11_atlas_5 (ly_X11_0 l1) (ly_X11_3 l1) crd (b_X11_atlas_16 (fun q => absurd q hv) (fun _ => b_X11_atlas_21 (ly_X11_0 l1) (ly_X11_14 l1) (by decide) (by show -2147483648 ≤ (up2 J 31 15 (J 32 4)) 155 0 + 1 ∧ (up2 J 31 15 (J 32 4)) 155 0 + 1 ≤ 2147483647; rw [i155]; omega) (by decide)))))
    have jo : ∀ a, a ≠ 31 → a ≠ 155 → J' a = J a := fun a h1 h2 => by
      rw [hJ']
      exact funext (fun j => by rw [up2_a _ h2, up2_a _ h1])
    have jk : ∀ k, k ≠ 15 → J' 31 k = J 31 k := fun k hk => by rw [hJ', up2_a _ (by decide), up2_k _ hk]
    have j15 : J' 31 15 = J 32 4 := by rw [hJ', up2_a _ (by decide), up2_same]
    have j155 : J' 155 0 = I 155 0 + 1 := by rw [hJ', up2_same, i155]
    have j155' : ∀ k, k ≠ 0 → J' 155 k = I 155 k := fun k hk => by rw [hJ', up2_k _ hk, up2_a _ (by decide), ji 155 (by decide) (by decide) (by omega)]
    refine ⟨0, v, J', S, Or.inl ⟨rfl, Ca.deep hc (by omega)⟩, fun Y hY => ?_⟩
    have yi : ∀ a, a ≠ 31 → a ≠ 32 → a ≠ 155 → a ≠ 191 → ¬(U ≤ a ∧ a < U + 43) → Y a = I a := fun a h1 h2 h3 h4 h5 => by rw [hY a h4, jo a h1 h3]; exact ji a h1 h2 h5
    have y156 : Y 156 = I 156 := yi 156 (by decide) (by decide) (by decide) (by decide) (by omega)
    obtain ⟨Y1, hY1⟩ : ∃ Y1, Y1 = gsI (atZ (up2 Y 156 0 0) (m : Int)) := ⟨_, rfl⟩
    obtain ⟨g1, g2, g3, g4⟩ := at_go (S := S) (Y := up2 Y 156 0 0) (t := I 157) (m := m) (U := U) (X := X) l2 (y157 Y (yi 157 (by decide) (by decide) (by decide) (by decide) (by omega))) hb hm7 hx0
    rw [← hY1] at g1 g2 g3 g4
    obtain ⟨K, ⟨k1, k2, _⟩, k3, k4⟩ := c3 Y1 g2
    obtain ⟨q1, q2⟩ := k3.1 hv
    have ky : ∀ a, a ≠ 156 → a ≠ 162 → a ≠ 163 → a ≠ 164 → a ≠ 166 → K a = Y a := fun a h1 h2 h3 h4 h5 => by
      rw [k1 a h1 h2 h3 h4 h5, g3 a h1]
      exact funext (fun j => up2_a _ h1)
    have kk : ∀ k, k ≠ 0 → k ≠ 2 → ¬(rdK k ∨ k = 6 ∨ k = 7) → K 156 k = I 156 k := fun k h0 h2 h3 => by
      unfold rdK gsK at h3
      rw [k2 k (by unfold rdK gsK; omega), g4 k (by unfold gsK; omega), atZ_k h2 (by omega) (by omega) (by omega) (by omega) (by omega) (by omega) (by omega), up2_k _ h0, y156]
    have k0 : K 156 0 = 0 := by rw [k2 0 (by unfold rdK gsK; omega), g4 0 (by unfold gsK; omega), atZ_k (by decide) (by decide) (by decide) (by decide) (by decide) (by decide) (by decide) (by decide), up2_same]
    have k22 : K 156 2 = 0 := by rw [k2 2 (by unfold rdK gsK; omega), g4 2 (by unfold gsK; omega)]; rfl
    have k158 : K 158 = I 158 := (ky 158 (by decide) (by decide) (by decide) (by decide) (by decide)).trans (yi 158 (by decide) (by decide) (by decide) (by decide) (by omega))
    obtain ⟨M, hM⟩ : ∃ M, M = up2 K 158 0 (K 158 0 + 1) := ⟨_, rfl⟩
    have w117 : L_X12_atlas_117 0 156 (m : Int) K S v (M, S) := w_X12_atlas_117 l2 (fun q => absurd (q1.symm.trans q) hv) (r1 := fun _ => q1) (e1 := fun _ => by rw [← hM]) (v1 := fun _ => by rw [k158]; omega)
    have hmc := at_M (S := S) l2 (hmY Y y156) g1 (k4 v (M, S) w117)
    have mo : ∀ a, a ≠ 158 → M a = K a := fun a ha => by rw [hM]; exact funext (fun j => up2_a _ ha)
    have mI : ∀ a, ¬(a = 31 ∨ a = 32 ∨ a = 155 ∨ a = 156 ∨ a = 158 ∨ a = 162 ∨ a = 163 ∨ a = 164 ∨ a = 166 ∨ a = 191 ∨ (U ≤ a ∧ a < U + 43)) → M a = I a := fun a ha => by
      rw [mo a (by omega), ky a (by omega) (by omega) (by omega) (by omega) (by omega)]
      exact yi a (by omega) (by omega) (by omega) (by omega) (by omega)
    have m156 : M 156 = K 156 := mo 156 (by decide)
    have m31 : M 31 = J' 31 := by rw [mo 31 (by decide), ky 31 (by decide) (by decide) (by decide) (by decide) (by decide), hY 31 (by decide)]
    have m155 : M 155 = J' 155 := by rw [mo 155 (by decide), ky 155 (by decide) (by decide) (by decide) (by decide) (by decide), hY 155 (by decide)]
    have mk : ∀ k, k ≠ 0 → k ≠ 2 → ¬(rdK k ∨ k = 6 ∨ k = 7) → M 156 k = I 156 k := fun k a1 a2 a3 => by rw [m156]; exact kk k a1 a2 a3
    have hN := (IV_S h).1
    have hR := (IV_R h).1
    refine ⟨yi 0 (by decide) (by decide) (by decide) (by decide) (by omega), v, M, Ca.deep hmc (by omega), by rw [m156]; exact k0, fun _ => rfl, (mo 191 (by decide)).trans (ky 191 (by decide) (by decide) (by decide) (by decide) (by decide)), T, U, 0, P, R, N, ?_⟩
    refine IV_w h ⟨fun a _ h2 h3 h4 h5 => mI a (by unfold scr at h2; unfold mutR at h4; omega), fun k hk => mk k (by unfold crR at hk; omega) (by unfold crR at hk; omega) (by unfold crR at hk; unfold rdK gsK; omega), fun a ha => mI a (by omega)⟩ (mI 122 (by omega)) (mI 123 (by omega)) (n' := 0) ⟨by omega, ?_, ?_, ?_⟩ ⟨?_, fun j hj => ?_⟩ ?_ ?_
    · rw [m31, jk 1 (by decide), j31]; exact b311
    · rw [m156]; exact k22
    · rw [mI 33 (by omega), mI 157 (by omega)]; exact t4
    · rw [m31, j15, m156]; exact q2.symm
    · have fj := f2 j hj
      rw [m155]
      by_cases e : j = 0
      · subst e
        rw [j155, hM, up2_same, k158]
        omega
      · rw [j155' j e, hM, up2_k _ e, k158]
        omega
    · exact saR_of (IV_A h) hN hR ⟨by rw [mI 126 (by omega)], by rw [mI 126 (by omega)]⟩ (fun a h1 h2 => mI a (by omega)) (fun i _ => by rw [mI 178 (by omega)]) (mI 179 (by omega)) (mI 187 (by omega)) (mk 41 (by decide) (by decide) (by unfold rdK gsK; omega)) (mk 56 (by decide) (by decide) (by unfold rdK gsK; omega))
    · obtain ⟨i1, i2⟩ := h.2.2.2.2.2.2.2.1
      have e59 := mk 59 (by decide) (by decide) (by unfold rdK gsK; omega)
      refine ⟨by rw [m31, jk 8 (by decide), j31, b31 8 (by decide), e59]; exact i1, ?_⟩
      rw [e59]
      rcases i2 with i2 | ⟨i2, i3⟩
      · exact Or.inl i2
      · exact Or.inr ⟨i2, saR_of i3 hN hR ⟨by rw [mI 135 (by omega)], by rw [mI 135 (by omega)]⟩ (fun a h1 h2 => mI a (by omega)) (fun i _ => by rw [mI 188 (by omega)]) (mI 189 (by omega)) (mI 190 (by omega)) (mk 60 (by decide) (by decide) (by unfold rdK gsK; omega)) (mk 61 (by decide) (by decide) (by unfold rdK gsK; omega))⟩
  · -- the text is a map
    have hv : v = 0 := by omega
    subst hv
    obtain ⟨S2, hS2⟩ : ∃ S2 : PS, S2 = (up2 (up2 S.1 31 2 (some (11, 0, U))) 31 3 (some (11, 0, T)), S.2) := ⟨_, rfl⟩
    have sa : S2.1 = up2 (up2 S.1 31 2 (some (11, 0, U))) 31 3 (some (11, 0, T)) := by rw [hS2]
    have se : ∀ b, b ≠ 31 → S2.1 b = S.1 b := fun b hb => by
      rw [sa]
      exact funext (fun j => by rw [up2_a _ hb, up2_a _ hb])
    have s2 : S2.2 = S.2 := by rw [hS2]
    have L2 : LyX11 S2 U T := LyX11_sw l1 (by omega) (by omega) (by rw [sa, up2_k _ (by decide), up2_same]) (by rw [sa, up2_same]) (fun k h2 h3 => by rw [sa, up2_k _ h3, up2_k _ h2]) se
    have l22 : LyX12 S2 := LyX12_sw l2 se
    obtain ⟨v', J2, d1, d2, d3⟩ := RD S2 l22
    have dt := Ev_det c1 d1
    have eJ : J2 = J := (Prod.mk.inj (Prod.mk.inj dt).2).1.symm
    have ev : v' = 0 := by
      have := (Prod.mk.inj dt).1
      cases this
      rfl
    subst eJ ev
    obtain ⟨K0, _, k02, _⟩ := d3 _ y02
    obtain ⟨_, P0, R0, N0, rr0, _⟩ := k02.2 rfl
    have hR0 := rr0.2.1.2.1
    have hR6 := rr0.1.2.1
    obtain ⟨a1, a31, a8, a15, a2, a6, a128, a129, a147, a5, a66⟩ := alC_f (J := J2) (R := R0) hU' hR0
    have cb := c_X9_begin (d := 5) (I := up2 J2 31 15 (-1)) (S := S2) (a1 := U + 2) (ly_X11_s L2) (ly_X0_r (ly_X11_c L2)) (by rw [up2_a _ (by omega), hR0]; omega) (by omega)
    have cf := c_X4_forgetTold (d := 7) (I := up2 (bgI (up2 J2 31 15 (-1)) (U + 2)) 31 8 0) (S := S2) (ly_X11_n L2)
    have hc : Ca 8 mX11_atlas [vR (some (21, 0, 31)), vI (m : Int)] (I, S) (.inl (some (vI 0))) (alC J2 U, S2) := by
      subst hS2
      exact Ca.of rfl rfl (b_X11_atlas_0 ct (b_X11_atlas_5 (ly_X11_0 l1) (ly_X11_3 l1) crd (b_X11_atlas_16 (fun _ => b_X11_atlas_44 (ly_X11_2 l1) (ly_X11_3 l1) (ly_X11_6 L2) (ly_X11_2 L2) (ly_X0_2 (ly_X11_c L2)) cb (b_X11_atlas_81 (ly_X11_10 L2) cf b_X11_atlas_93)) (fun q => absurd rfl q))))
    refine ⟨0, 0, alC J2 U, S2, Or.inl ⟨rfl, Ca.deep hc (by omega)⟩, fun Y hY => ?_⟩
    have yi : ∀ a, ¬(a = 31 ∨ a = 32 ∨ a = 126 ∨ a = 128 ∨ a = 129 ∨ a = 147 ∨ a = 191 ∨ (U ≤ a ∧ a < U + 43)) → Y a = I a := fun a ha => by
      rw [hY a (by omega), a1 a (by omega) (by omega) (by omega) (by omega) (by omega)]
      exact ji a (by omega) (by omega) (by omega)
    have y156 : Y 156 = I 156 := yi 156 (by omega)
    obtain ⟨Y1, hY1⟩ : ∃ Y1, Y1 = gsI (atZ (up2 Y 156 0 0) (m : Int)) := ⟨_, rfl⟩
    obtain ⟨g1, g2, g3, g4⟩ := at_go (S := S2) (Y := up2 Y 156 0 0) (t := I 157) (m := m) (U := U) (X := X) l22 (y157 Y (yi 157 (by omega))) hb hm7 hx0
    rw [← hY1] at g1 g2 g3 g4
    obtain ⟨K, ⟨k1, k2, ker⟩, k3, k4⟩ := d3 Y1 g2
    obtain ⟨q1, P', R', N', rr, mm⟩ := k3.2 rfl
    have q4 : K 156 4 = -1 := by rw [(ker q1).2, g4 4 (by unfold gsK; omega)]; rfl
    obtain ⟨⟨rP, rR, rN⟩, ⟨r1, r2, r3⟩, ⟨u1, u2, u3⟩, rp, rru, rst⟩ := rr
    have eR : R' = R0 := by have : (R' : Int) = (R0 : Int) := r2.symm.trans hR0; omega
    obtain ⟨M, m1, ⟨⟨n13, n14, n15, n41, n56, n59, n47, n49⟩, nk, n159, n160, n161, n165, n178, n178', ntb, no⟩⟩ := al_M (d := 0) (x1 := (m : Int)) (S := S2) l22 u1 u2 u3 rP (fun p hp => by
      obtain ⟨r, s, hh, _⟩ := pq_pc (rp p hp).1
      exact ⟨r, s, hh⟩)
    have w117 : L_X12_atlas_117 0 156 (m : Int) K S2 0 (M, S2) := w_X12_atlas_117 l22 (fun _ => m1) (r1 := fun q => absurd q1 q) (e1 := fun q => absurd q1 q) (v1 := fun q => absurd q1 q)
    have hmc := at_M (S := S2) l22 (hmY Y y156) g1 (k4 0 (M, S2) w117)
    have ky : ∀ a, ¬(a = 156 ∨ a = 162 ∨ a = 163 ∨ a = 164 ∨ a = 166) → K a = Y a := fun a h1 => by
      rw [k1 a (by omega) (by omega) (by omega) (by omega) (by omega), g3 a (by omega)]
      exact funext (fun j => up2_a _ (by omega))
    have mA : ∀ a, ¬(a = 156 ∨ (159 ≤ a ∧ a ≤ 178) ∨ a = 191) → M a = alC J2 U a := fun a ha => by
      rw [no a (by omega) (by omega) (by omega) (by omega) (by omega) (by omega), ky a (by omega)]
      exact hY a (by omega)
    have mJ : ∀ a, ¬(a = 31 ∨ a = 126 ∨ a = 128 ∨ a = 129 ∨ a = 147 ∨ a = 156 ∨ (159 ≤ a ∧ a ≤ 178) ∨ a = 191) → M a = J2 a := fun a ha => by
      rw [mA a (by omega)]
      exact a1 a (by omega) (by omega) (by omega) (by omega) (by omega)
    have mI : ∀ a, ¬(a = 31 ∨ a = 32 ∨ a = 126 ∨ a = 128 ∨ a = 129 ∨ a = 147 ∨ a = 156 ∨ (159 ≤ a ∧ a ≤ 178) ∨ a = 191 ∨ (U ≤ a ∧ a < U + 43)) → M a = I a := fun a ha => by
      rw [mJ a (by omega)]
      exact ji a (by omega) (by omega) (by omega)
    have mU : ∀ a, U ≤ a → a < U + 43 → M a = J2 a := fun a h1 h2 => mJ a (by omega)
    have m31 : M 31 = alC J2 U 31 := mA 31 (by omega)
    have m126 : M 126 = alC J2 U 126 := mA 126 (by omega)
    have m128 : M 128 = alC J2 U 128 := mA 128 (by omega)
    have m129 : M 129 = alC J2 U 129 := mA 129 (by omega)
    have m147 : M 147 = alC J2 U 147 := mA 147 (by omega)
    have e147 : J2 147 = I 147 := ji 147 (by decide) (by decide) (by omega)
    have k0 : K 156 0 = 0 := by rw [k2 0 (by unfold rdK gsK; omega), g4 0 (by unfold gsK; omega), atZ_k (by decide) (by decide) (by decide) (by decide) (by decide) (by decide) (by decide) (by decide), up2_same]
    have k22 : K 156 2 = 0 := by rw [k2 2 (by unfold rdK gsK; omega), g4 2 (by unfold gsK; omega)]; rfl
    have k48 : K 156 48 = I 156 48 := by rw [k2 48 (by unfold rdK gsK; omega), g4 48 (by unfold gsK; omega), atZ_k (by decide) (by decide) (by decide) (by decide) (by decide) (by decide) (by decide) (by decide), up2_k _ (by decide), y156]
    have mk : ∀ k, k < 13 → M 156 k = K 156 k := fun k hk => nk k (by omega) (by omega) (by omega) (by omega) (by omega) (by omega) (by omega) (by omega) (by omega)
    obtain ⟨o1, o2, o3, o4, o5, o6, o7, o8, o9⟩ := h.2.2.2.2.2.2.2.2.1
    have hZ := h.2.2.2.2.2.2.2.2.2.2.2
    refine ⟨yi 0 (by omega), 0, M, Ca.deep hmc (by omega), by rw [mk 0 (by decide)]; exact k0, fun _ => rfl, (no 191 (by decide) (by decide) (by decide) (by decide) (by decide) (by decide)).trans (ky 191 (by decide)), U, T, 0, P', R', N', ⟨L2, l22, by omega⟩, ⟨by omega, ?_, ?_, ?_⟩, ⟨?_, fun j hj => ?_⟩, ⟨rP, ?_, n13, fun p hp => ?_⟩, ⟨rR, ?_, n14, fun r hr => ?_⟩, ⟨rN, ?_, n15, fun s hs => ?_, fun s k hs hk => ?_⟩, ?_, ⟨?_, Or.inl n59⟩, ?_, iC_e (IV_C h) (mI 122 (by omega)) (mI 123 (by omega)), ⟨?_, ?_, ?_, ?_⟩, ?_⟩
    · rw [m31, a31 1 (by decide) (by decide), j31]; exact b311
    · rw [mk 2 (by decide)]; exact k22
    · rw [mI 33 (by omega), mI 157 (by omega)]; exact t4
    · rw [m31, a15, mk 4 (by decide), q4]
    · have fj := f2 j hj
      rw [mI 155 (by omega), mI 158 (by omega)]
      omega
    · rw [mU U (by omega) (by omega)]; exact r1
    · obtain ⟨hpc, h9⟩ := rp p hp
      obtain ⟨r, s, hh, hr3, hs1⟩ := pq_pc hpc
      have eA : M (U + 7 + 9 * p) = J2 (U + 7 + 9 * p) := mU _ (by omega) (by omega)
      refine ⟨pc_frame hpc (fun k _ => by rw [eA]) (mU _ (by omega) (by omega)) (mU _ (by omega) (by omega)) (mU _ (by omega) (by omega)) (fun k b1 b2 => n159 k (by omega)) (fun k b1 b2 => n165 k (by omega)), r, s, by rw [eA]; exact hr3, by rw [eA]; exact hs1, ntb p r s hp hh, Or.inl (by rw [eA]; exact h9)⟩
    · rw [mU (U + 2) (by omega) (by omega)]; exact r2
    · have := rru r hr
      obtain ⟨w1, w2, w3⟩ := this
      refine ⟨fun k hk => ?_, ?_, ?_⟩
      · rw [mU (U + 3) (by omega) (by omega), n160 _ (by omega)]; exact w1 k hk
      · rw [n160 _ (by omega)]; exact w2
      · rw [n160 _ (by omega)]; exact w3
    · rw [mU U (by omega) (by omega)]; exact r3
    · exact stR_frame (rst s hs) (by rw [mU (U + 4) (by omega) (by omega)]) (by rw [mU (U + 5) (by omega) (by omega)]) (fun k _ _ => by rw [mU (U + 6) (by omega) (by omega)]) (fun k b1 b2 => n161 k (by omega))
    · obtain ⟨g, e1, e2, e3, e4, _⟩ := rst s hs
      rw [n161 _ (by omega), e3] at hk
      rw [n161 _ (by omega)]
      have mm1 := (Bool.and_eq_true_iff.mp mm).1
      have mm2 := allB_iff.mp mm1 s (by rw [u3]; omega)
      have e5 : (10 * (s : Int)).toNat = 10 * s := by omega
      have mm3 := allB_iff.mp mm2 k (by rw [e5, e3]; omega)
      have mm4 := of_decide_eq_true mm3
      rw [show ((10 * (s : Int)) + 1 + (k : Int)).toNat = 10 * s + 1 + k by omega, u3] at mm4
      exact mm4
    · refine saR_0 rN (fun k hk => ?_) (fun r hr => ?_) ?_ ?_ n178 n41 n56
      · show M 128 k = 0
        rw [m128]; exact a128 k hk
      · show M 129 r = M 178 (12 + r) ∧ _
        obtain ⟨w1, w2, _⟩ := rru r hr
        have w0 : J2 (U + 3) (8 * r) = K 163 (8 * r) := w1 0 (by decide)
        rw [m129, a129 r (by omega), n178' r (by omega), if_neg (by omega), w0]
        exact ⟨rfl, w2⟩
      · rw [m126]; exact a2
      · rw [m126]; exact a6
    · rw [m31, a8, n59]
    · refine ⟨?_, ?_, ?_, ?_, Or.inl n47, ?_, fun q => absurd (n47.symm.trans q) (by decide), ?_, fun k hk => ?_⟩
      · rw [m147, a147 3 (by decide) (by decide), e147]; exact o1
      · rw [m147, a147 4 (by decide) (by decide), e147, nk 48 (by decide) (by decide) (by decide) (by decide) (by decide) (by decide) (by decide) (by decide) (by decide), k48]; exact o2
      · rw [m147, a5, n49]
      · rw [m147, a66, n47]
      · rw [nk 48 (by decide) (by decide) (by decide) (by decide) (by decide) (by decide) (by decide) (by decide) (by decide), k48]
        omega
      · rw [n49]; omega
      · rw [mI 154 (by omega)]; exact o9 k hk
    · exact rgI_sw (rgI_of gr (fun b hb => mI b (by omega)) (fun b b1 b2 => mI b (by omega))) se s2
    · intro no' j b1 b2
      rw [mI no' (by omega), mI 0 (by omega)]
      exact gs1 no' j b1 b2
    · exact stC_of gs2 (fun a ha => mI a (by omega))
    · exact strs_sw (strs_of gs3 (fun a ha => mI a (by omega))) se
    · unfold iZ at hZ ⊢
      rw [rnN_sw se, s2]
      omega
end
end
