/-! ===== lines that tell a rule, a spot, nothing known: both sides ===== -/
noncomputable section
section
variable {d : Nat} {I J K X Y Y0 : Nat → Nat → Int} {S S2 : PS} {U P R N p n q : Nat} {t : Nat → Int}
theorem rgP_q {a b : Int} {q' : Nat} (hq : q ≤ n) (h : rgP t n q = .inr (a, b, q')) : q ≤ q' ∧ q' ≤ n := by
  have hin := tk_in t hq
  have hin2 := tk_in t hin.2.2.2
  unfold rgP at h
  by_cases c1 : nfK t n q 3 9 ≠ 0
  · rw [if_pos c1] at h; cases h
  · rw [if_neg c1] at h
    by_cases c2 : nfK t n (tkE t n q) (gsV t n q) 9 ≠ 0
    · rw [if_pos c2] at h; cases h
    · rw [if_neg c2] at h; cases h; omega
theorem ruP_q {w : Nat → Int} {q' : Nat} (hq : q ≤ n) (e : ruP t n q = .inr (q', w)) : q ≤ q' ∧ q' ≤ n := by
  have hin := tk_in t hq
  have hin2 := tk_in t hin.2.2.2
  unfold ruP at e
  by_cases c : nfK t n q 1 99 ≠ 0
  · rw [if_pos c] at e; cases e
  · rw [if_neg c] at e
    by_cases d1 : wdK t n (tkE t n q) ≠ 3
    · rw [if_pos d1] at e; cases e
    · rw [if_neg d1] at e
      rcases hg : rgP t n (tkE t n (tkE t n q)) with ⟨k, q1⟩ | ⟨a, b, q2⟩
      · rw [hg] at e; cases e
      · rw [hg] at e
        have h2 := rgP_q hin2.2.2.2 hg
        have i2 := tk_in t h2.2
        simp only at e
        by_cases d2 : wdK t n q2 ≠ 4
        · rw [if_pos d2] at e; cases e
        · rw [if_neg d2] at e
          rcases hg2 : rgP t n (tkE t n q2) with ⟨k, q1⟩ | ⟨a2, b2, q3⟩
          · rw [hg2] at e; cases e
          · rw [hg2] at e
            have h3 := rgP_q i2.2.2.2 hg2
            have i3 := tk_in t h3.2
            simp only at e
            by_cases d3 : wdK t n q3 = 5 ∨ wdK t n q3 = 6
            · rw [if_pos d3] at e
              rcases hg3 : rgP t n (tkE t n q3) with ⟨k, q1⟩ | ⟨a3, b3, q4⟩
              · rw [hg3] at e; cases e
              · rw [hg3] at e
                have h4 := rgP_q i3.2.2.2 hg3
                cases e
                omega
            · rw [if_neg d3] at e
              cases e
              omega
theorem ln_R (hU : U = 34 ∨ U = 77) (hl0 : LyX10 S) (hl1 : LyX0 S U) (hl2 : LyX12 S2) (hb : ∀ k, 0 ≤ t k ∧ t k ≤ 255) (hn : n ≤ 700) (hq : q ≤ n) (ht : txR (X 33) t) (hst : stC X) (hss : strs X S) (hk : TKc X t n q) (hw : wdK t n q = 2) (h0 : tkK t n q ≠ 0) (hR : rrR U P R N X Y0) : ∃ v J, Ca (d + 5) mX5_readRule [vR (some (20, 0, 32)), vR (some (11, 0, U))] (X, S) (.inl (some (vI v))) (J, S) ∧ drF U X J ∧ ∀ Y, rrY t n q U P R N X Y → ∃ K, Ca (d + 6) mX12_clause [vR (some (22, 0, 156))] (Y, S2) (.inl none) (K, S2) ∧ rdF Y K ∧ lnQ t n q U v J K := by
  have hin := tk_in t hq
  have hpos := tk_pos t h0
  obtain ⟨⟨p1, p2, p3⟩, ⟨x1, x2, x3⟩, _⟩ := id hR
  by_cases c4 : R = 6
  · refine ⟨2, X, ru_6 hl0 hl1 (by rw [x2, c4]; rfl), fun _ _ _ => rfl, fun Y hY => ?_⟩
    obtain ⟨hR', hkY, hY3, hYt⟩ := hY
    obtain ⟨_, _, ⟨y1, y2, y3⟩, _⟩ := id hR'
    have b1 := bg_2 (d := d + 1) (b1 := Y 156 17 = 6) (b2 := False) hl2 hkY hY3 (by rw [y2, c4]; rfl) (fun w => w)
    refine ⟨up2 (up2 Y 156 3 2) 156 4 (tkS t n q : Int), cl_2 (J8 := up2 (up2 Y 156 3 2) 156 4 (tkS t n q : Int)) (J9 := Y) (z8 := false) hl2 (by rw [kw_M hkY hq]; exact hw) (by omega) b1 (fun _ => c1_bad hl2 (fun w => absurd w (show ¬((2 : Int) = 0) by decide))) (fun w => absurd w (by decide)) (fun w => absurd w (by decide)), rdF_bad, fun _ => ⟨rfl, hk.2.2.1.symm ▸ up2_same _ _ _ _⟩, fun w => absurd w (by decide)⟩
  · obtain ⟨v, J, a1, a2, a3⟩ := ru_C (d := d) (R := R) (q := tkE t n q) hU hl0 hl1 (ly_X0_r hl1) ht hst hss hn hin.2.2.2 (by omega) hk.1 hk.2.1 x2
    refine ⟨v, J, a1, fun a h1 h2 => a2.1 a h1 (by omega) (by omega), fun Y hY => ?_⟩
    obtain ⟨hR', hkY, hY3, hYt⟩ := hY
    obtain ⟨_, _, ⟨y1, y2, y3⟩, y4, y5, y6⟩ := id hR'
    have b1 := bg_y (d := d + 1) (b1 := Y 156 17 = 6) (b2 := False) hl2 hYt hb hkY hn hq hY3 (by omega) (fun w => w)
    obtain ⟨e1, e2, e3, e4, e5⟩ := rdF_go (d := d + 2) hl2 hYt hb hkY hn hq
    obtain ⟨K, m1, ⟨m2, m3, m4, m6⟩, m5⟩ := ru_M (d := d) (X := gsI Y) (R := R) (q := tkE t n q) hl2 hb hn hin.2.2.2 (by omega) (by rw [e4 157 (by decide)]; exact hYt) e2 (by rw [e5 3 (by unfold gsK; omega)]; exact hY3) (by rw [e5 17 (by unfold gsK; omega)]; exact y2)
    have goto : ∀ K', L_X12_clause_175 d 156 (kwM Y) K S2 (K', S2) → Ca (d + 6) mX12_clause [vR (some (22, 0, 156))] (Y, S2) (.inl none) (K', S2) := fun K' kk => cl_2 (J8 := gsI Y) (J9 := K) (z8 := true) hl2 (by rw [kw_M hkY hq]; exact hw) (by omega) b1 (fun w => absurd rfl w) (fun _ => m1) (fun _ => kk)
    rcases hP : ruP t n (tkE t n q) with ⟨k, q'⟩ | ⟨q', w⟩
    · rw [hP] at a3
      obtain ⟨v1, v2, v3⟩ := a3.1 k q' rfl
      obtain ⟨w1, w2⟩ := m5.1 k q' hP
      exact ⟨K, goto K (c1_bad hl2 (by rw [w1]; exact v3)), rdF_trans e3 m2, fun _ => ⟨by rw [w1, v1], by rw [w2, v2]⟩, fun w => absurd w (by rw [v1]; exact v3)⟩
    · obtain ⟨w1, w2, w3, w4, w5⟩ := m5.2 q' w hP
      have hqq := ruP_q hin.2.2.2 hP
      have hin' := tk_in t hqq.2
      by_cases k3' : tkK t n q' = 3
      · have hE : ruE t n (ruP t n (tkE t n q)) = .inr (q', w) := by rw [hP]; show (if _ then _ else _) = _; rw [if_pos k3']
        obtain ⟨v1, v2, v3, v4, v5, v6, v7⟩ := a3.2 q' w hE
        obtain ⟨f1, f2, f3⟩ := ru_in hin.2.2.2 hE
        obtain ⟨o1, o2, o3, o4, o5⟩ := rdF_go (d := d + 2) (X := K) hl2 (by rw [m3 157 (by decide) (by decide), e4 157 (by decide)]; exact hYt) hb w5 hn hqq.2
        refine ⟨gsI K, goto _ (c1_y hl2 (by rw [m3 157 (by decide) (by decide), e4 157 (by decide)]; exact hYt) hb w5 hn hqq.2 w1 k3'), rdF_trans e3 (rdF_trans m2 o3), fun w => absurd v1 w, fun _ => ⟨tkE t n q', P, R + 1, N, ⟨by omega, hin'.2.2.2⟩, v5, v6, ⟨⟨p1, by omega, p3⟩, ⟨?_, v2, ?_⟩, ⟨?_, ?_, ?_⟩, fun p hp => ?_, fun r hr => ?_, fun s' hs => ?_⟩, o2, ?_, ?_⟩⟩
        · rw [a2.1 U (by omega) (by omega) (by omega)]; exact x1
        · rw [a2.1 U (by omega) (by omega) (by omega)]; exact x3
        · rw [o5 16 (by unfold gsK; omega), m4, e5 16 (by unfold gsK; omega)]; exact y1
        · rw [o5 17 (by unfold gsK; omega), w4]; rfl
        · rw [o5 18 (by unfold gsK; omega), m6, e5 18 (by unfold gsK; omega)]; exact y3
        · rw [o4 162 (by decide), o4 166 (by decide), m3 162 (by decide) (by decide), m3 166 (by decide) (by decide), e4 162 (by decide), e4 166 (by decide)]
          obtain ⟨z1, z2⟩ := y4 p hp
          exact ⟨pc_frame z1 (fun k _ => by rw [a2.1 _ (by omega) (by omega) (by omega)]) (a2.1 _ (by omega) (by omega) (by omega)) (a2.1 _ (by omega) (by omega) (by omega)) (a2.1 _ (by omega) (by omega) (by omega)) (fun _ _ _ => rfl) (fun _ _ _ => rfl), by rw [a2.1 _ (by omega) (by omega) (by omega)]; exact z2⟩
        · rw [o4 163 (by decide)]
          by_cases hrR : r = R
          · subst hrR
            have w20 : K 163 (8 * r) = w 0 := w2 0 (by decide)
            refine ⟨fun k hk => by rw [v3 k hk, w2 k hk], ?_, ?_⟩
            · rw [w20]; exact f1.1
            · rw [w2 7 (by decide)]; exact f1.2
          · exact ruR_frame (y5 r (by omega)) (fun k h1 h2 => v4 k (by omega)) (fun k h1 h2 => by rw [w3 k (by omega), e4 163 (by decide)])
        · rw [o4 164 (by decide), m3 164 (by decide) (by decide), e4 164 (by decide)]
          exact stR_frame (y6 s' hs) (by rw [a2.1 (U + 4) (by omega) (by omega) (by omega)]) (by rw [a2.1 (U + 5) (by omega) (by omega) (by omega)]) (fun k _ _ => by rw [a2.1 (U + 6) (by omega) (by omega) (by omega)]) (fun _ _ _ => rfl)
        · rw [o5 3 (by unfold gsK; omega)]; exact w1
        · rw [o4 157 (by decide), m3 157 (by decide) (by decide), e4 157 (by decide)]; exact hYt
      · have hE : ruE t n (ruP t n (tkE t n q)) = .inl (1, q') := by rw [hP]; show (if _ then _ else _) = _; rw [if_neg k3']
        obtain ⟨v1, v2, v3⟩ := a3.1 1 q' hE
        exact ⟨up2 (up2 K 156 3 1) 156 4 (tkS t n q' : Int), goto _ (c1_no hl2 w5 w1 k3'), rdF_trans e3 (rdF_trans m2 rdF_bad), fun _ => ⟨v1.symm ▸ rfl, by rw [v2]; exact up2_same _ _ _ _⟩, fun w => absurd w (by rw [v1]; decide)⟩
theorem ln_S (hU : U = 34 ∨ U = 77) (hl0 : LyX10 S) (hl1 : LyX0 S U) (hl2 : LyX12 S2) (hb : ∀ k, 0 ≤ t k ∧ t k ≤ 255) (hn : n ≤ 700) (hq : q ≤ n) (ht : txR (X 33) t) (hk : TKc X t n q) (hw : wdK t n q = 7) (h0 : tkK t n q ≠ 0) (hR : rrR U P R N X Y0) : ∃ v J, Ca (d + 5) mX5_readSpot [vR (some (20, 0, 32)), vR (some (11, 0, U))] (X, S) (.inl (some (vI v))) (J, S) ∧ drF U X J ∧ ∀ Y, rrY t n q U P R N X Y → ∃ K, Ca (d + 6) mX12_clause [vR (some (22, 0, 156))] (Y, S2) (.inl none) (K, S2) ∧ rdF Y K ∧ lnQ t n q U v J K := by
  have hin := tk_in t hq
  have hpos := tk_pos t h0
  obtain ⟨⟨p1, p2, p3⟩, ⟨x1, x2, x3⟩, _⟩ := id hR
  by_cases c4 : N = 12
  · refine ⟨2, X, sc_12 (d := d + 1) hl0 hl1 (by rw [x3, c4]; rfl), fun _ _ _ => rfl, fun Y hY => ?_⟩
    obtain ⟨hR', hkY, hY3, hYt⟩ := hY
    obtain ⟨_, _, ⟨y1, y2, y3⟩, _⟩ := id hR'
    have b1 := bg_2 (d := d + 1) (b1 := Y 156 18 = 12) (b2 := False) hl2 hkY hY3 (by rw [y3, c4]; rfl) (fun w => w)
    refine ⟨up2 (up2 Y 156 3 2) 156 4 (tkS t n q : Int), cl_7 (J8 := up2 (up2 Y 156 3 2) 156 4 (tkS t n q : Int)) (J9 := Y) (z8 := false) hl2 (by rw [kw_M hkY hq]; exact hw) (by omega) b1 (fun _ => c1_bad hl2 (fun w => absurd w (show ¬((2 : Int) = 0) by decide))) (fun w => absurd w (by decide)) (fun w => absurd w (by decide)), rdF_bad, fun _ => ⟨rfl, hk.2.2.1.symm ▸ up2_same _ _ _ _⟩, fun w => absurd w (by decide)⟩
  · obtain ⟨v, J, a1, a2, a3⟩ := sc_C (d := d + 1) (N := N) (q := tkE t n q) (A := fun _ => 0) hU hl0 hl1 ht hn (by omega) hin.2.2.2 hk.1 hk.2.1 x3
    refine ⟨v, J, a1, fun a h1 h2 => a2.1 a (by unfold spW; omega), fun Y hY => ?_⟩
    obtain ⟨hR', hkY, hY3, hYt⟩ := hY
    obtain ⟨_, _, ⟨y1, y2, y3⟩, y4, y5, y6⟩ := id hR'
    have b1 := bg_y (d := d + 1) (b1 := Y 156 18 = 12) (b2 := False) hl2 hYt hb hkY hn hq hY3 (by omega) (fun w => w)
    obtain ⟨e1, e2, e3, e4, e5⟩ := rdF_go (d := d + 2) hl2 hYt hb hkY hn hq
    obtain ⟨K, m1, m2, ⟨m3, k16⟩, m5⟩ := sm_M (d := d + 1) (X := gsI Y) (N := N) (q := tkE t n q) (A := Y 164) hl2 hb hn (by omega) hin.2.2.2 (by rw [e4 157 (by decide)]; exact hYt) e2 (by rw [e5 3 (by unfold gsK; omega)]; exact hY3) (e4 164 (by decide)) (by rw [e5 18 (by unfold gsK; omega)]; exact y3)
    have goto : ∀ K', L_X12_clause_175 d 156 (kwM Y) K S2 (K', S2) → Ca (d + 6) mX12_clause [vR (some (22, 0, 156))] (Y, S2) (.inl none) (K', S2) := fun K' kk => cl_7 (J8 := gsI Y) (J9 := K) (z8 := true) hl2 (by rw [kw_M hkY hq]; exact hw) (by omega) b1 (fun w => absurd rfl w) (fun _ => m1) (fun _ => kk)
    have cg := spL_cg (t := t) (n := n) (N := N) 10 0 (tkE t n q) (fun _ => 0) (Y 164) (fun k hk => absurd hk (by omega))
    unfold spR at a3
    rcases hP : spL t n N 10 0 (tkE t n q) (fun _ => 0) with ⟨k, q'⟩ | ⟨i, q', A'⟩
    · rw [hP] at a3
      obtain ⟨v1, v2, v3⟩ := a3.1 k q' rfl
      obtain ⟨w1, w2, w3⟩ := m5.1 k q' (cg.1 _ hP)
      exact ⟨K, goto K (c1_bad hl2 (by rw [w1]; exact w3)), rdF_trans e3 m2, fun _ => ⟨by rw [w1, v1], by rw [w2, v2]⟩, fun w => absurd w (by rw [v1]; exact v3)⟩
    · rw [hP] at a3
      obtain ⟨B', hB1, hB2, hB3⟩ := cg.2 i q' A' hP
      obtain ⟨u1, u2⟩ := m5.2 i q' B' hB1
      obtain ⟨⟨f1, f2, f3⟩, f4⟩ := spL_in (t := t) (n := n) (N := N) 10 0 (tkE t n q) (fun _ => 0) (by decide) hin.2.2.2 (fun k hk => absurd hk (by omega)) i q' A' hP
      have hin' := tk_in t f2
      by_cases c23 : tkK t n q' = 3 ∧ i < 3
      · have hE : spE t n (.inr (i, q', A')) = .inl (2, q') := by show (if _ then _ else _) = _; rw [if_pos c23.1, if_pos c23.2]
        obtain ⟨v1, v2, v3⟩ := a3.1 2 q' hE
        obtain ⟨w1, w2⟩ := u1 c23
        exact ⟨K, goto K (c1_bad hl2 (by rw [w1]; decide)), rdF_trans e3 m2, fun _ => ⟨by rw [w1, v1], by rw [w2, v2]⟩, fun w => absurd w (by rw [v1]; decide)⟩
      · obtain ⟨w1, w2, w3, w4, w5⟩ := u2 c23
        by_cases k3' : tkK t n q' = 3
        · have hi3 : ¬(i < 3) := fun w => c23 ⟨k3', w⟩
          have hE : spE t n (.inr (i, q', A')) = .inr (i, q', A') := by show (if _ then _ else _) = _; rw [if_pos k3', if_neg hi3]
          obtain ⟨v1, v2, v3, v4, ⟨z6, z4, ⟨z5, zb⟩, zn⟩, v6⟩ := a3.2 i q' A' hE
          obtain ⟨o1, o2, o3, o4, o5⟩ := rdF_go (d := d + 2) (X := K) hl2 (by rw [m3 157 (by decide) (by decide), e4 157 (by decide)]; exact hYt) hb w4 hn w5
          have kd : ∀ k, ¬(10 * N ≤ k ∧ k < 10 * N + 10) → K 164 k = Y 164 k := fun k hk => by rw [w2, up1_o _ (by omega), hB3 k (by omega)]
          refine ⟨gsI K, goto _ (c1_y hl2 (by rw [m3 157 (by decide) (by decide), e4 157 (by decide)]; exact hYt) hb w4 hn w5 w1 k3'), rdF_trans e3 (rdF_trans m2 o3), fun w => absurd v1 w, fun _ => ⟨tkE t n q', P, R, N + 1, ⟨by omega, hin'.2.2.2⟩, v2, v3, ⟨⟨p1, p2, by omega⟩, ⟨?_, ?_, v4⟩, ⟨?_, ?_, ?_⟩, fun p hp => ?_, fun r hr => ?_, fun s' hs => ?_⟩, o2, ?_, ?_⟩⟩
          · rw [a2.2.1 1 (by decide)]; exact x1
          · rw [a2.1 (U + 2) (by unfold spW; omega)]; exact x2
          · rw [o5 16 (by unfold gsK; omega), k16.1, e5 16 (by unfold gsK; omega)]; exact y1
          · rw [o5 17 (by unfold gsK; omega), k16.2, e5 17 (by unfold gsK; omega)]; exact y2
          · rw [o5 18 (by unfold gsK; omega), w3]; rfl
          · rw [o4 162 (by decide), o4 166 (by decide), m3 162 (by decide) (by decide), m3 166 (by decide) (by decide), e4 162 (by decide), e4 166 (by decide)]
            obtain ⟨z1, z2⟩ := y4 p hp
            exact ⟨pc_frame z1 (fun k _ => by rw [a2.1 _ (by unfold spW; omega)]) (a2.1 _ (by unfold spW; omega)) (a2.1 _ (by unfold spW; omega)) (a2.1 _ (by unfold spW; omega)) (fun _ _ _ => rfl) (fun _ _ _ => rfl), by rw [a2.1 _ (by unfold spW; omega)]; exact z2⟩
          · rw [o4 163 (by decide), m3 163 (by decide) (by decide), e4 163 (by decide)]
            exact ruR_frame (y5 r hr) (fun k _ _ => by rw [a2.1 (U + 3) (by unfold spW; omega)]) (fun _ _ _ => rfl)
          · rw [o4 164 (by decide)]
            by_cases hsN : s' = N
            · subst hsN
              have u4 : ∀ a, a ≠ U → up2 J U 6 (s' : Int) a = J a := fun a h => funext (fun k => up2_a _ h)
              rw [u4 (U + 4) (by omega)] at z4
              rw [u4 (U + 5) (by omega)] at z5 zb
              rw [u4 (U + 6) (by omega)] at zn
              have kA : ∀ k, k < i → K 164 (10 * s' + 1 + k) = A' (10 * s' + 1 + k) := fun k hk => by rw [w2, up1_o _ (by omega), hB2 k hk]
              refine ⟨i, by omega, z4, by rw [w2]; exact up1_same _ _ _, fun k hk => ⟨by rw [kA k hk]; exact zn k hk, by rw [kA k hk]; exact f4 k hk⟩, z5, fun b hb => ?_⟩
              rw [zb b hb]
              exact anyB_congr (fun k hk => by rw [kA k hk])
            · exact stR_frame (y6 s' (by omega)) (a2.2.2.1 s' hsN).1 (a2.2.2.1 s' hsN).2 (fun k h1 h2 => a2.2.2.2 k (by omega)) (fun k h1 h2 => kd k (by omega))
          · rw [o5 3 (by unfold gsK; omega)]; exact w1
          · rw [o4 157 (by decide), m3 157 (by decide) (by decide), e4 157 (by decide)]; exact hYt
        · have hE : spE t n (.inr (i, q', A')) = .inl (1, q') := by show (if _ then _ else _) = _; rw [if_neg k3']
          obtain ⟨v1, v2, v3⟩ := a3.1 1 q' hE
          exact ⟨up2 (up2 K 156 3 1) 156 4 (tkS t n q' : Int), goto _ (c1_no hl2 w4 w1 k3'), rdF_trans e3 (rdF_trans m2 rdF_bad), fun _ => ⟨v1.symm ▸ rfl, by rw [v2]; exact up2_same _ _ _ _⟩, fun w => absurd w (by rw [v1]; decide)⟩
end
end
