/-! ===== swap ===== -/
noncomputable section
section
variable {d : Nat} {I J K X Y Z : Nat → Nat → Int} {S S' : PS} {c T U n P R N p r s : Nat} {kd pl vl : Int}
theorem act_IV2 (h : IV c T U n P R N I S) {row : Nat → Int} (x2 : X 126 = I 126) (xo : ∀ a, a ≠ 128 → a ≠ 129 → X a = I a) (hY : ∀ a, a ≠ 191 → Y a = kaI X kd pl vl a) (hact : acU N R kd pl vl row (I 178)) (hp : pnt (X 128) (row) N) (hr : ∀ r, r < R → X 129 r = row (12 + r) ∧ 1 ≤ row (12 + r) ∧ row (12 + r) ≤ 99) : IV (c + 1) T U n P R N (up1 (kpI (up2 Y 156 0 0)) 178 row) S ∧ (up1 (kpI (up2 Y 156 0 0)) 178 row) 156 0 = 0 := by
  have hT := (IV_L h).2.2
  have ky : ∀ a, a ≠ 191 → a ≠ 126 → ¬(128 ≤ a ∧ a ≤ 132) → Y a = I a := fun a h1 h2 h3 => by rw [hY a h1, kaI_o h2 (by omega), xo a (by omega) (by omega)]
  have k : ∀ a, a ≠ 191 → a ≠ 126 → ¬(128 ≤ a ∧ a ≤ 132) → a ≠ 156 → a ≠ 178 → a ≠ 179 → (up1 (kpI (up2 Y 156 0 0)) 178 row) a = I a := fun a h1 h2 h3 h4 h5 h6 => by
    funext j
    rw [up1_o _ h5, kpI_o h6 h4, up2_a _ h4, ky a h1 h2 h3]
  have k6 : ∀ j, j ≠ 0 → j ≠ 41 → (up1 (kpI (up2 Y 156 0 0)) 178 row) 156 j = I 156 j := fun j h0 hj => by
    rw [up1_o _ (by decide), kpI_156 hj, up2_k _ h0, ky 156 (by decide) (by decide) (by decide)]
  have k178 : (up1 (kpI (up2 Y 156 0 0)) 178 row) 178 = row := up1_same _ _ _
  have kb : ∀ a, 126 ≤ a → a ≤ 134 → (up1 (kpI (up2 Y 156 0 0)) 178 row) a = kaI X kd pl vl a := fun a h1 h2 => by
    funext j
    rw [up1_o _ (by omega), kpI_o (by omega) (by omega), up2_a _ (by omega), hY a (by omega)]
  refine ⟨IV_m h ⟨fun a h1 h2 h3 h4 h5 => k a (by unfold scr at h2; omega) (by unfold mutQ at h4; omega) (by unfold mutQ at h4; omega) h3 (by unfold mutQ at h4; omega) (by unfold mutQ at h4; omega), fun j hj h41 _ => k6 j (by unfold cr at hj; omega) h41, fun a ha => k a (by omega) (by omega) (by omega) (by omega) (by omega) (by omega)⟩ (k 122 (by decide) (by decide) (by decide) (by decide) (by decide) (by decide)) (k 123 (by decide) (by decide) (by decide) (by decide) (by decide) (by decide)) ?_ ?_, ?_⟩
  · have hF := iF_c h.2.2.1 (show c ≤ c + 1 by omega)
    unfold iF at hF ⊢
    rw [k 31 (by decide) (by decide) (by decide) (by decide) (by decide) (by decide), k6 4 (by decide) (by decide), k 155 (by decide) (by decide) (by decide) (by decide) (by decide) (by decide), k 158 (by decide) (by decide) (by decide) (by decide) (by decide) (by decide)]
    exact hF
  · refine act_ok (X := X) (Z := up2 Y 156 0 0) (kd := kd) (pl := pl) (vl := vl) (IV_A h) (IV_S h).1 (IV_R h).1 ?_ ?_ ?_ ?_ ?_ ?_ ?_ ?_ ?_ ?_ ?_ ?_ ?_ ?_ ?_ ?_ ?_
    · rw [up2_k _ (by decide), ky 156 (by decide) (by decide) (by decide)]
    · rw [← ky 179 (by decide) (by decide) (by decide)]; exact funext (fun j => up2_a _ (by decide))
    · rw [← ky 178 (by decide) (by decide) (by decide)]; exact funext (fun j => up2_a _ (by decide))
    · rw [x2]
    · exact fun a h1 h2 => xo a (by omega) (by omega)
    · rw [kb 126 (by decide) (by decide)]
    · exact fun a h1 h2 => kb a (by omega) (by omega)
    · exact up1_o _ (by decide)
    · rw [up1_o _ (by decide)]
    · rw [k178]; exact hact
    · rw [k178, kb 128 (by decide) (by decide), kaI_o (by decide) (by decide)]; exact hp
    · intro r hr'
      rw [k178, kb 129 (by decide) (by decide), kaI_o (by decide) (by decide)]; exact hr r hr'
    · rw [kb 126 (by decide) (by decide), kaI_126 (by decide), x2]
    · rw [kb 133 (by decide) (by decide), kaI_o (by decide) (by decide)]; exact xo 133 (by decide) (by decide)
    · rw [kb 134 (by decide) (by decide), kaI_o (by decide) (by decide)]; exact xo 134 (by decide) (by decide)
    · exact k 187 (by decide) (by decide) (by decide) (by decide) (by decide) (by decide)
    · exact k6 56 (by decide) (by decide)
  · rw [up1_o _ (by decide), kpI_156 (by decide), up2_same]
theorem xcG_2 {g : Nat → Int} {n : Nat} {x a b : Int} (hab : a ≠ b) (i : Nat) : xcG (xcG g n x a b) n x a b i = g i := by
  by_cases q : i < n ∧ bt x i = true
  · have e : xcG g n x a b i = (if g i = a then b else if g i = b then a else g i) := by unfold xcG; rw [if_pos q]
    show (if i < n ∧ bt x i = true then (if xcG g n x a b i = a then b else if xcG g n x a b i = b then a else xcG g n x a b i) else xcG g n x a b i) = g i
    rw [if_pos q, e]
    by_cases h1 : g i = a
    · rw [if_pos h1, if_neg (fun z => hab z.symm), if_pos rfl, h1]
    · rw [if_neg h1]
      by_cases h2 : g i = b
      · rw [if_pos h2, if_pos rfl, h2]
      · rw [if_neg h2, if_neg h1, if_neg h2]
  · have e : xcG g n x a b i = g i := by unfold xcG; rw [if_neg q]
    show (if i < n ∧ bt x i = true then _ else xcG g n x a b i) = g i
    rw [if_neg q, e]
theorem pu_swap {x1 x2 : Int} (h : IV c T U n P R N I S) (hcc : c ≤ 1000000) : outC c mX11_swap mX12_swap ecI [vI x1, vI x2] I S := by
  obtain ⟨l1, l2, hT⟩ := IV_L h
  obtain ⟨⟨b1, b2, b3⟩, ⟨e1, e2, e3⟩, f1, f2, f3⟩ := fc_IV h
  obtain ⟨_, ⟨m1, m2, m3⟩, g1, _⟩ := fm_IV h
  have hac := acts_in h
  have hrf := refd_in h hcc 1 (by decide)
  have hN := (IV_S h).1
  have mm : ∀ (Y : Nat → Nat → Int) (S' : PS), LyX12 S' → Y 156 = I 156 → Y 158 = I 158 → Y 161 = I 161 → Ca 3 mX12_swap [vR (some (22, 0, 156)), vI x1, vI x2] (Y, S') _ _ := fun Y S' l2' y6 y8 y1 => by
    have zI : IV c T U n P R N (up2 I 156 0 0) S := IV_r h fR_0
    have k161 : (kpI (up2 Y 156 0 0)) 161 = (up2 I 156 0 0) 161 := by rw [kpI_o (by decide) (by decide)]; funext j; rw [up2_a _ (by decide), up2_a _ (by decide), y1]
    have k15 : (kpI (up2 Y 156 0 0)) 156 15 = (up2 I 156 0 0) 156 15 := by rw [kpI_156 (by decide), up2_k _ (by decide), up2_k _ (by decide), y6]
    have s0 := iS_mSp (IV_S zI)
    have s1 := iS_mNb (IV_S zI)
    unfold mSp at s0
    unfold mNb at s1
    rw [← k161, ← k15] at s0 s1
    have hm := c_X12_swap (d := 0) (I := Y) (S := S') (x1 := x1) (x2 := x2) l2' (v2 := fun _ => by rw [y6, m3] at *; omega) (v3 := fun _ _ => by rw [y6]; omega) (v4 := fun _ _ => s0) (v5 := fun _ _ => s1) (v6 := fun q _ => by rw [k15, up2_k _ (by decide)]; rw [y6] at q; exact q) (v7 := fun _ _ => by rw [y8]; omega)
    rw [y6, m3] at hm
    exact hm (fun _ => by omega)
  by_cases w : 0 ≤ x1 ∧ x1 < (N : Int)
  · obtain ⟨s, hs⟩ : ∃ s : Nat, x1 = (s : Int) := ⟨x1.toNat, by omega⟩
    have hsN : s < N := by omega
    subst hs
    have hp := (IV_A h).1
    have hcA := iS_cAd (IV_S h)
    have hch := c_X2_chainOf (d := 4) (I := I) (S := S) (a0 := 127) (a1 := T) (x2 := (s : Int)) (x3 := x2) (ly_X9_p (ly_X11_s l1)) (ly_X11_c l1) (by rw [e3]; omega) (by rw [e3]; exact w) (fun u i hu hi => by rw [e3] at hu ⊢; exact Int.ofNat_lt.mpr (hcA.2.2.2 u i (by omega) (by rw [hcA.2.2.1 u i (by omega)]; exact hi)))
    rw [e3, pnt_chC hp hsN hcA.2.2.1] at hch
    have hcol : colO (I (127 + 1)) (s : Int) = I 178 s := pnt_col hp hsN
    have hrow := row_bd h hsN
    have hnn := chG_ne (adj := adM I) (g := I 178) (c := x2) hN hsN
    by_cases w2 : canS (I 178) s x2 = true
    · rw [if_pos w2] at hch
      have wc := of_decide_eq_true w2
      obtain ⟨b, hb⟩ : ∃ b : Nat, x2 = (b : Int) := ⟨x2.toNat, by omega⟩
      subst hb
      obtain ⟨a, ha⟩ : ∃ a : Nat, I 178 s = (a : Int) := ⟨(I 178 s).toNat, by omega⟩
      have ha4 : a < 4 := by omega
      have hb4 : b < 4 := by omega
      have hab : a ≠ b := by omega
      obtain ⟨z, hz⟩ : ∃ z, z = chG (adM I) (I 178) N s (b : Int) := ⟨_, rfl⟩
      rw [← hz] at hch hnn
      have hex := c_X2_exchange (d := 5) (I := I) (S := S) (a0 := 127) (x1 := z) (x2 := (a : Int)) (x3 := (b : Int)) (ly_X9_p (ly_X11_s l1)) (by omega) (by omega)
      rw [Int.toNat_natCast, Int.toNat_natCast] at hex
      obtain ⟨X, hX0⟩ : ∃ X, X = (up2 (up2 I (127 + 1) a (p_or (p_and (I (127 + 1) a) (p_xor z (-1))) (p_and (I (127 + 1) b) z))) (127 + 1) b (p_or (p_and ((up2 I (127 + 1) a (p_or (p_and (I (127 + 1) a) (p_xor z (-1))) (p_and (I (127 + 1) b) z))) (127 + 1) b) (p_xor z (-1))) (p_and (I (127 + 1) a) z))) := ⟨_, rfl⟩
      rw [← hX0] at hex
      have xo : ∀ a, a ≠ 128 → X a = I a := fun a' ha' => by rw [hX0]; exact funext (fun j => by rw [up2_a _ ha', up2_a _ ha'])
      have hpX : pnt (X 128) (xcG (I 178) N z (a : Int) (b : Int)) N := by
        have := pnt_xc (x := z) hp ha4 hb4 hab
        have e : X 128 = xcF (I 128) z a b := by
          rw [hX0, up2_up1, up1_same, up2_up1, up1_same]
          rfl
        rw [e]
        exact this
      have x126 : X 126 = I 126 := xo 126 (by decide)
      have hke := c_X9_keepAct (d := 4) (I := X) (S := S) (x1 := 2) (x2 := z) (x3 := ((a : Int) * 4) + (b : Int)) (ly_X11_s l1) (fun q => by rw [x126] at q ⊢; omega) (fun q => by rw [x126] at q ⊢; omega)
      have hke' : Ca 5 mX9_keepAct [vR (some (19, 0, 126)), vI 2, vI z, vI (((a : Int) * 4) + (b : Int))] (X, S) (.inl none) (kaI X 2 z (((a : Int) * 4) + (b : Int)), S) := hke
      have hc := w_X11_swap_0 (d := 0) (I := I) (S := S) (x1 := (s : Int)) (x2 := (b : Int)) (z1 := z) (J1 := I) (J2 := X) (J3 := kaI X 2 z (((a : Int) * 4) + (b : Int))) (r := (.inl (some (vI (bcn z 32))), (kaI X 2 z (((a : Int) * 4) + (b : Int)), S))) l1 (fun _ => hch) (fun _ _ => by rw [hcol, ha]; exact hex) (fun _ _ => by rw [hcol, ha]; exact hke') (r1 := fun _ _ => rfl) (r2 := fun _ q => absurd q hnn) (r3 := fun q => absurd (by rw [e3]; exact w) q) (v1 := fun _ _ => by rw [hcol, ha]; omega) (v2 := fun _ _ => by rw [hcol, ha]; omega) (v3 := fun _ q => absurd q hnn)
      refine mk_mut (T := T) (U := U) (n := n) (P := P) (R := R) (N := N) (Ca.deep hc (by omega)) (fun Y hYJ => ?_)
      have yk : ∀ a, a ≠ 191 → a ≠ 126 → ¬(128 ≤ a ∧ a ≤ 132) → Y a = I a := fun a h1 h2 h3 => by rw [hYJ a h1, kaI_o h2 (by omega), xo a (by omega)]
      have y178 := yk 178 (by decide) (by decide) (by decide)
      have y156 := yk 156 (by decide) (by decide) (by decide)
      have hm := mm Y S l2 y156 (yk 158 (by decide) (by decide) (by decide)) (yk 161 (by decide) (by decide) (by decide))
      have w4 : (Y 178 (0 + (s : Int)).toNat ≠ (-1)) ∧ (((0 : Int) ≤ (b : Int) ∧ (b : Int) ≤ 3) ∧ (Y 178 (0 + (s : Int)).toNat ≠ (b : Int))) := by
        rw [y178, show (0 + (s : Int)).toNat = s by omega]
        omega
      simp only [if_pos w, if_pos w4] at hm
      obtain ⟨W, hW⟩ : ∃ W, W = kpI (up2 Y 156 0 0) := ⟨_, rfl⟩
      have w178 : W 178 = I 178 := by rw [hW, kpI_o (by decide) (by decide)]; funext j; rw [up2_a _ (by decide), y178]
      have w161 : W 161 = I 161 := by rw [hW, kpI_o (by decide) (by decide)]; funext j; rw [up2_a _ (by decide), yk 161 (by decide) (by decide) (by decide)]
      have w15 : W 156 15 = (N : Int) := by rw [hW, kpI_156 (by decide), up2_k _ (by decide), y156]; exact m3
      have adW : adM W = adM I := by funext u i; unfold adM; rw [w161]
      have mA : mAd W N (adM I) := by
        have g := iS_mAd (IV_S h)
        obtain ⟨q1, q2, q3, q4, q5, q6⟩ := g
        unfold mSp at q3
        unfold mNb at q4
        rw [m3, ← w15] at q3 q4
        rw [← w161] at q3 q4
        exact ⟨w15, q2, q3, q4, fun _ _ _ _ => by rw [adW], q6⟩
      have gW : gR W 0 = I 178 := by rw [gR_r0, w178]
      have cM : chM W 0 (s : Int) (b : Int) = z := by rw [chM_eq mA hsN, gW, hz]
      rw [← hW, cM] at hm
      have hrow2 : ∀ i, i < N → (swI W 0 (s : Int) (b : Int)) 178 i = xcG (I 178) N z (a : Int) (b : Int) i := fun i hi => by
        have g := swI_row (c := (b : Int)) mA (b := 0) hsN (Or.inl rfl) (by rw [gW]; exact w2) i hi
        rw [gW, gR_r0] at g
        rw [g]
        unfold swG
        rw [← hz, ha]
      have hrow3 : ∀ j, N ≤ j → (swI W 0 (s : Int) (b : Int)) 178 j = I 178 j := fun j hj => by
        rw [swI_out (n := N) (by decide) w15 (Or.inr (by omega)), w178]
      have eh : swI W 0 (s : Int) (b : Int) = up1 W 178 ((swI W 0 (s : Int) (b : Int)) 178) := by
        unfold swI
        rw [up1_same]
      have ev : bcn z 15 = bcn z 32 := (bcn_zero (by omega) (fun i hi => by
        cases q : bt z i with
        | false => rfl
        | true =>
          rw [hz] at q
          have := (chG_col hN q).1
          omega)).symm
      rw [ev, eh] at hm
      rw [hW] at hm
      obtain ⟨k1, k2⟩ := act_IV2 (Y := Y) (X := X) (kd := 2) (pl := z) (vl := ((a : Int) * 4) + (b : Int)) (row := (swI W 0 (s : Int) (b : Int)) 178) h x126 (fun a h1 _ => xo a h1) hYJ (Or.inr (Or.inr (Or.inl ⟨rfl, a, b, ⟨ha4, hb4, hab⟩, by omega, fun i hi => by
          have e : xcG ((swI W 0 (s : Int) (b : Int)) 178) N z (a : Int) (b : Int) i = xcG (xcG (I 178) N z (a : Int) (b : Int)) N z (a : Int) (b : Int) i := by
            unfold xcG
            rw [hrow2 i hi]
            rfl
          rw [e, xcG_2 (by omega)], fun j hj => (hrow3 _ (by omega)).symm⟩))) (pnt_ext hpX (fun i hi => (hrow2 i hi).symm)) (fun r hr => by
          have g := (IV_A h).2.1 r hr
          rw [hrow3 (12 + r) (by omega), xo 129 (by decide)]
          exact g)
      rw [← hW] at k1 k2 hm
      exact ⟨_, Ca.deep hm (by omega), k2, by rw [hW]; exact kp_191b, yk 0 (by decide) (by decide) (by decide), k1⟩
    · rw [if_neg w2] at hch
      have hc := w_X11_swap_0 (d := 0) (I := I) (S := S) (x1 := (s : Int)) (x2 := x2) (z1 := 0) (J1 := I) (J2 := I) (J3 := I) (r := (.inl (some (vI (-1))), (up2 I 155 1 (I 155 1 + 1), S))) l1 (fun _ => hch) (fun _ q => absurd rfl q) (fun _ q => absurd rfl q) (r1 := fun _ q => absurd rfl q) (r2 := fun _ _ => rfl) (r3 := fun q => absurd (by rw [e3]; exact w) q) (v1 := fun _ q => absurd rfl q) (v2 := fun _ q => absurd rfl q) (v3 := fun _ _ => by omega)
      refine mk_mut (T := T) (U := U) (n := n) (P := P) (R := R) (N := N) (Ca.deep hc (by omega)) (fun Y hYJ => ?_)
      have yk : ∀ a, a ≠ 191 → a ≠ 155 → Y a = I a := fun a h1 h2 => by
        rw [hYJ a h1]
        exact funext (fun j => up2_a _ h2)
      have y178 := yk 178 (by decide) (by decide)
      have hm := mm Y S l2 (yk 156 (by decide) (by decide)) (yk 158 (by decide) (by decide)) (yk 161 (by decide) (by decide))
      have w4 : ¬((Y 178 (0 + (s : Int)).toNat ≠ (-1)) ∧ ((0 ≤ x2 ∧ x2 ≤ 3) ∧ (Y 178 (0 + (s : Int)).toNat ≠ x2))) := fun z => w2 (by
        rw [y178, show (0 + (s : Int)).toNat = s by omega] at z
        exact decide_eq_true ⟨z.1, z.2.2, by omega, by omega⟩)
      simp only [if_pos w, if_neg w4] at hm
      exact ⟨_, Ca.deep hm (by omega), by rw [up2_a _ (by decide), up2_same], funext (fun j => by rw [up2_a _ (by decide), up2_a _ (by decide)]), yk 0 (by decide) (by decide), rfs_ok h (by decide) hYJ⟩
  · have nw : ∀ {Q : Prop}, (0 ≤ x1 ∧ x1 < I T 6) → Q := fun q => absurd (show 0 ≤ x1 ∧ x1 < (N : Int) by omega) w
    have hc := w_X11_swap_0 (d := 0) (I := I) (S := S) (x1 := x1) (x2 := x2) (z1 := 0) (J1 := I) (J2 := I) (J3 := I) (r := (.inr 1, (I, exS S))) l1 (fun q => nw q) (fun q _ => nw q) (fun q _ => nw q) (r1 := fun q _ => nw q) (r2 := fun q _ => nw q) (r3 := fun _ => rfl) (v1 := fun q _ => nw q) (v2 := fun q _ => nw q) (v3 := fun q _ => nw q)
    refine mk_thr0 h (ec := ecI) (by decide) (Ca.deep hc (by omega)) fR_refl (fun Y hY hYJ => ?_)
    have hm := mm Y (exS S) (IV_L hY).2.1 (hYJ 156 (by decide)) (hYJ 158 (by decide)) (hYJ 161 (by decide))
    simp only [if_neg w] at hm
    exact ⟨_, _, Ca.deep hm (by omega), up2_same _ _ _ _, fR_00⟩
end
end
