/-! ===== a line that tells a join, both sides ===== -/
noncomputable section
section
variable {d : Nat} {I J K X Y Y0 : Nat → Nat → Int} {S S2 : PS} {U P R N p n q : Nat} {t : Nat → Int} {m : Int} {ok : Int → Int → Bool}
theorem jnR_in {a b : Int} {q' : Nat} (hq : q ≤ n) (h : jnR t n q m ok = .inr (a, b, q')) : (0 ≤ a ∧ a < m) ∧ (0 ≤ b ∧ b < m) ∧ ok a b = true ∧ q ≤ q' ∧ q' ≤ n := by
  have hin := tk_in t hq
  have hin2 := tk_in t hin.2.2.2
  unfold jnR at h
  by_cases c1 : vfK t n q m = 0
  · rw [if_neg (fun w => w c1)] at h
    by_cases c2 : vfK t n (tkE t n q) m = 0
    · rw [if_neg (fun w => w c2)] at h
      by_cases c3 : ok (gsV t n q) (gsV t n (tkE t n q)) = true
      · rw [if_pos c3] at h
        cases h
        exact ⟨(vf_0 c1).2, (vf_0 c2).2, c3, by omega, hin2.2.2.2⟩
      · rw [if_neg c3] at h; cases h
    · rw [if_pos c2] at h; cases h
  · rw [if_pos c1] at h; cases h
theorem rj_0 (hl0 : LyX10 S) (hl1 : LyX0 S U) (hP : X U 1 = 0) : Ca (d + 5) mX5_readJoin [vR (some (20, 0, 32)), vR (some (11, 0, U))] (X, S) (.inl (some (vI 3))) (X, S) :=
  w_X5_readJoin_0 (J1 := X) (J2 := X) (z1 := 0) (z2 := 0) hl0 hl1 (fun w => absurd w (by omega)) (fun w => absurd w (by omega)) (fun w => absurd w (by omega)) (fun w => absurd w (by omega)) (r1 := fun w => absurd w (by omega)) (e1 := fun w => absurd w (by omega)) (r2 := fun w => absurd w (by omega)) (e2 := fun w => absurd w (by omega)) (r3 := fun w => absurd w (by omega)) (e3 := fun w => absurd w (by omega)) (r4 := fun _ => rfl) (e4 := fun _ => rfl) (v1 := fun w => absurd w (by omega)) (v2 := fun w => absurd w (by omega))
theorem rj_4 {A : Nat} (hA : A = U + 7 + 9 * p) (hl0 : LyX10 S) (hl1 : LyX0 S U) (hp : p < 4) (hP : X U 1 = (p : Int) + 1) (hc : X A 6 = 4) : Ca (d + 5) mX5_readJoin [vR (some (20, 0, 32)), vR (some (11, 0, U))] (X, S) (.inl (some (vI 2))) (X, S) := by
  have eA : U + 7 + 9 * (X U 1 - 1).toNat = A := by rw [hP, hA]; congr 2; omega
  have n4 : ¬(X (U + 7 + 9 * (X U 1 - 1).toNat) 6 < 4) := by rw [eA, hc]; decide
  exact w_X5_readJoin_0 (J1 := X) (J2 := X) (z1 := 0) (z2 := 0) hl0 hl1 (fun _ w => absurd w n4) (fun _ w => absurd w n4) (fun _ w => absurd w n4) (fun _ w => absurd w n4) (r1 := fun _ w => absurd w n4) (e1 := fun _ w => absurd w n4) (r2 := fun _ w => absurd w n4) (e2 := fun _ w => absurd w n4) (r3 := fun _ _ => rfl) (e3 := fun _ _ => rfl) (r4 := fun w => absurd w (by omega)) (e4 := fun w => absurd w (by omega)) (v1 := fun _ => by omega) (v2 := fun _ => by omega)
theorem ln_J (hU : U = 34 ∨ U = 77) (hl0 : LyX10 S) (hl1 : LyX0 S U) (hl2 : LyX12 S2) (hb : ∀ k, 0 ≤ t k ∧ t k ≤ 255) (hn : n ≤ 700) (hq : q ≤ n) (ht : txR (X 33) t) (hk : TKc X t n q) (hw : wdK t n q = 1) (h0 : tkK t n q ≠ 0) (hR : rrR U P R N X Y0) : ∃ v J, Ca (d + 5) mX5_readJoin [vR (some (20, 0, 32)), vR (some (11, 0, U))] (X, S) (.inl (some (vI v))) (J, S) ∧ drF U X J ∧ ∀ Y, rrY t n q U P R N X Y → ∃ K, Ca (d + 6) mX12_clause [vR (some (22, 0, 156))] (Y, S2) (.inl none) (K, S2) ∧ rdF Y K ∧ lnQ t n q U v J K := by
  have hin := tk_in t hq
  have hpos := tk_pos t h0
  obtain ⟨⟨p1, p2, p3⟩, ⟨x1, x2, x3⟩, ⟨y1, y2, y3⟩, xp, _⟩ := id hR
  rcases Nat.eq_zero_or_pos P with P0 | P0
  · refine ⟨3, X, rj_0 hl0 hl1 (by rw [x1, P0]; rfl), fun _ _ _ => rfl, fun Y hY => ?_⟩
    obtain ⟨hR', hkY, hY3, hYt⟩ := hY
    obtain ⟨_, _, ⟨y1, y2, y3⟩, _⟩ := id hR'
    have b1 := bg_3 (d := d + 1) (b1 := (0 < Y 156 16) ∧ (Y 162 ((20 * (Y 156 16 - 1)) + 10).toNat = 4)) (b2 := Y 156 16 = 0) hl2 hkY hY3 (by omega) (by omega)
    refine ⟨up2 (up2 Y 156 3 3) 156 4 (tkS t n q : Int), cl_1 (J8 := up2 (up2 Y 156 3 3) 156 4 (tkS t n q : Int)) (J9 := Y) (z8 := false) hl2 (by rw [kw_M hkY hq]; exact hw) (by omega) b1 (fun _ => c1_bad hl2 (fun w => absurd w (show ¬((3 : Int) = 0) by decide))) (fun w => absurd w (by decide)) (fun w => absurd w (by decide)), rdF_bad, fun _ => ⟨rfl, hk.2.2.1.symm ▸ up2_same _ _ _ _⟩, fun w => absurd w (by decide)⟩
  · obtain ⟨p, rfl⟩ : ∃ p, P = p + 1 := ⟨P - 1, by omega⟩
    obtain ⟨A, hA⟩ : ∃ A, A = U + 7 + 9 * p := ⟨_, rfl⟩
    have x1 : X U 1 = (p : Int) + 1 := x1
    obtain ⟨H, s, r, c, g1, g2, g3, g4, g5, g6, g7, g8⟩ := (xp p (by omega)).1
    rw [← hA] at g2 g4 g5 g6 g7 g8
    have i10 : ∀ z : Int, z = (p : Int) → ((20 * z) + 10).toNat = 20 * p + 10 := fun z hz => by omega
    by_cases c4 : c = 4
    · refine ⟨2, X, rj_4 hA hl0 hl1 (by omega) x1 (by rw [g2.2.2.2.2, c4]; rfl), fun _ _ _ => rfl, fun Y hY => ?_⟩
      obtain ⟨hR', hkY, hY3, hYt⟩ := hY
      obtain ⟨_, _, ⟨y1, y2, y3⟩, yp, _⟩ := id hR'
      obtain ⟨H', s', r', c', k1, k2, k3, _⟩ := (yp p (by omega)).1
      rw [← hA] at k2
      have ec : c' = 4 := by have := k2.2.2.2.2; have := g2.2.2.2.2; omega
      have b1 := bg_2 (d := d + 1) (b1 := (0 < Y 156 16) ∧ (Y 162 ((20 * (Y 156 16 - 1)) + 10).toNat = 4)) (b2 := Y 156 16 = 0) hl2 hkY hY3 ⟨by omega, by rw [i10 _ (by omega), k3.2.2.2, ec]; rfl⟩ (by omega)
      refine ⟨up2 (up2 Y 156 3 2) 156 4 (tkS t n q : Int), cl_1 (J8 := up2 (up2 Y 156 3 2) 156 4 (tkS t n q : Int)) (J9 := Y) (z8 := false) hl2 (by rw [kw_M hkY hq]; exact hw) (by omega) b1 (fun _ => c1_bad hl2 (fun w => absurd w (show ¬((2 : Int) = 0) by decide))) (fun w => absurd w (by decide)) (fun w => absurd w (by decide)), rdF_bad, fun _ => ⟨rfl, hk.2.2.1.symm ▸ up2_same _ _ _ _⟩, fun w => absurd w (by decide)⟩
    · have hm : X A 4 = (r : Int) + 1 + (s : Int) := g2.2.2.2.1
      obtain ⟨v, J, a1, a2, a3, a4⟩ := rj_C (d := d) (p := p) (c := c) (q := tkE t n q) (m := (r : Int) + 1 + (s : Int)) (ok := jok X A) hU hA hl0 hl1 ht hn hin.2.2.2 hk.1 hk.2.1 (by omega) x1 hm (by omega) g2.2.2.2.2 (by omega) (fun a b ha hb => by unfold jok; rw [Int.toNat_natCast, Int.toNat_natCast])
      refine ⟨v, J, a1, fun a h1 h2 => a2 a h1 (by omega) (by omega), fun Y hY => ?_⟩
      obtain ⟨hR', hkY, hY3, hYt⟩ := hY
      obtain ⟨_, _, ⟨y1, y2, y3⟩, y4, y5, y6⟩ := id hR'
      have hpc := (y4 p (by omega)).1
      rw [← hA] at hpc
      obtain ⟨H', s', r', c', k1, k2, k3, _⟩ := id hpc
      have er : r' = r := by have := k2.2.2.1; have := g2.2.2.1; omega
      have es : s' = s := by have := k2.2.1; have := g2.2.1; omega
      have ec : c' = c := by have := k2.2.2.2.2; have := g2.2.2.2.2; omega
      subst er es ec
      have y1 : Y 156 16 = (p : Int) + 1 := y1
      have b1 := bg_y (d := d + 1) (b1 := (0 < Y 156 16) ∧ (Y 162 ((20 * (Y 156 16 - 1)) + 10).toNat = 4)) (b2 := Y 156 16 = 0) hl2 hYt hb hkY hn hq hY3 (fun w => absurd w.2 (by rw [i10 _ (by omega), k3.2.2.2]; omega)) (by omega)
      obtain ⟨e1, e2, e3, e4, e5⟩ := rdF_go (d := d + 2) hl2 hYt hb hkY hn hq
      have i9 : ((20 * (p : Int)) + 9).toNat = 20 * p + 9 := by omega
      have i1 : ((20 * (p : Int)) + 1).toNat = 20 * p + 1 := by omega
      obtain ⟨K, m1, m2, m3, m4, m5⟩ := rj_M (d := d + 1) (X := gsI Y) (p := p) (c := c') (q := tkE t n q) (m := (r' : Int) + 1 + (s' : Int)) (ring := (r' : Int)) (sp := (s' : Int)) (ok := jok X A) hl2 hb hn hin.2.2.2 (by rw [e4 157 (by decide)]; exact hYt) e2 (by rw [e5 3 (by unfold gsK; omega)]; exact hY3) (by omega) (by rw [e5 16 (by unfold gsK; omega)]; exact y1) (by rw [e4 162 (by decide), i9]; exact k3.2.2.1) (by rw [e4 162 (by decide), i1]; exact k3.2.1) (by rw [e4 162 (by decide), i10 _ rfl]; exact k3.2.2.2) (by omega) rfl (by omega) (by omega) (by omega) (fun a b ha hb => by rw [e4 166 (by decide), e4 162 (by decide), jok_M hpc (by omega) (by omega), k3.2.2.1])
      have goto : ∀ K', L_X12_clause_175 d 156 (kwM Y) K S2 (K', S2) → Ca (d + 6) mX12_clause [vR (some (22, 0, 156))] (Y, S2) (.inl none) (K', S2) := fun K' kk => cl_1 (J8 := gsI Y) (J9 := K) (z8 := true) hl2 (by rw [kw_M hkY hq]; exact hw) (by omega) b1 (fun w => absurd rfl w) (fun _ => m1) (fun _ => kk)
      rcases hP : jnR t n (tkE t n q) ((r' : Int) + 1 + (s' : Int)) (jok X A) with ⟨k, q'⟩ | ⟨a, b, q'⟩
      · rw [hP] at a4
        obtain ⟨v1, v2, v3⟩ := a4.1 k q' rfl
        obtain ⟨w1, w2, w3⟩ := m5.1 k q' hP
        exact ⟨K, goto K (c1_bad hl2 (by rw [w1]; exact w3)), rdF_trans e3 m2, fun _ => ⟨by rw [w1, v1], by rw [w2, v2]⟩, fun w => absurd w (by rw [v1]; exact v3)⟩
      · rw [hP] at a4
        obtain ⟨w1, w2, w3, w4⟩ := m5.2 a b q' hP
        obtain ⟨f1, f2, f3, f4, f5⟩ := jnR_in hin.2.2.2 hP
        have hin' := tk_in t w4
        by_cases k3' : tkK t n q' = 3
        · have hE : jnE t n (.inr (a, b, q')) = .inr (a, b, q') := by show (if _ then _ else _) = _; rw [if_pos k3']
          obtain ⟨v1, v2, v3, v4, v5, v6⟩ := a4.2 a b q' hE
          obtain ⟨o1, o2, o3, o4, o5⟩ := rdF_go (d := d + 2) (X := K) hl2 (by rw [m3 157 (by decide) (by decide), e4 157 (by decide)]; exact hYt) hb w3 hn w4
          obtain ⟨an, ha⟩ : ∃ an : Nat, a = (an : Int) := ⟨a.toNat, by omega⟩
          obtain ⟨bn, hbn⟩ : ∃ bn : Nat, b = (bn : Int) := ⟨b.toNat, by omega⟩
          refine ⟨gsI K, goto _ (c1_y hl2 (by rw [m3 157 (by decide) (by decide), e4 157 (by decide)]; exact hYt) hb w3 hn w4 w1 k3'), rdF_trans e3 (rdF_trans m2 o3), fun w => absurd v1 w, fun _ => ⟨tkE t n q', p + 1, R, N, ⟨by omega, hin'.2.2.2⟩, v4, v5, ⟨⟨p1, p2, p3⟩, ⟨?_, ?_, ?_⟩, ⟨?_, ?_, ?_⟩, fun p' hp => ?_, fun r hr => ?_, fun s' hs => ?_⟩, o2, ?_, ?_⟩⟩
          · rw [a2 U (by omega) (by omega) (by omega)]; exact x1
          · rw [a2 (U + 2) (by omega) (by omega) (by omega)]; exact x2
          · rw [a2 U (by omega) (by omega) (by omega)]; exact x3
          · rw [o5 16 (by unfold gsK; omega), m4 16 (by unfold gsK; omega), e5 16 (by unfold gsK; omega)]; exact y1
          · rw [o5 17 (by unfold gsK; omega), m4 17 (by unfold gsK; omega), e5 17 (by unfold gsK; omega)]; exact y2
          · rw [o5 18 (by unfold gsK; omega), m4 18 (by unfold gsK; omega), e5 18 (by unfold gsK; omega)]; exact y3
          · rw [o4 162 (by decide), o4 166 (by decide), m3 166 (by decide) (by decide), e4 166 (by decide)]
            by_cases hpP : p' = p
            · subst hpP
              rw [← hA]
              refine ⟨pc_join (c := c') (a := an) (b := bn) hpc (by omega) (by omega) (by rw [← ha, ← hbn]; exact f3) g2.2.2.2.2 (by omega) (fun k hk => a3 k (by omega)) v2 (a2 _ (by omega) (by omega) (by omega)) (a2 _ (by omega) (by omega) (by omega)) (by rw [v3, ha, hbn]) (by rw [w2, e4 162 (by decide), ha, hbn]), ?_⟩
              rw [a3 9 (by decide)]
              have := (y4 p' (by omega)).2
              rw [← hA] at this
              exact this
            · obtain ⟨z1, z2⟩ := y4 p' (by omega)
              have hwr : ∀ k, 20 * p' ≤ k → k < 20 * p' + 20 → K 162 k = Y 162 k := fun k h1 h2 => by
                rw [w2, e4 162 (by decide)]
                unfold jnW
                rw [up1_o _ (by omega), up1_o _ (by omega), up1_o _ (by omega)]
              exact ⟨pc_frame z1 (fun k _ => by rw [a2 _ (by omega) (by omega) (by omega)]) (a2 _ (by omega) (by omega) (by omega)) (a2 _ (by omega) (by omega) (by omega)) (a2 _ (by omega) (by omega) (by omega)) hwr (fun _ _ _ => rfl), by rw [a2 _ (by omega) (by omega) (by omega)]; exact z2⟩
          · rw [o4 163 (by decide), m3 163 (by decide) (by decide), e4 163 (by decide)]
            exact ruR_frame (y5 r hr) (fun k _ _ => by rw [a2 (U + 3) (by omega) (by omega) (by omega)]) (fun _ _ _ => rfl)
          · rw [o4 164 (by decide), m3 164 (by decide) (by decide), e4 164 (by decide)]
            exact stR_frame (y6 s' hs) (by rw [a2 (U + 4) (by omega) (by omega) (by omega)]) (by rw [a2 (U + 5) (by omega) (by omega) (by omega)]) (fun k _ _ => by rw [a2 (U + 6) (by omega) (by omega) (by omega)]) (fun _ _ _ => rfl)
          · rw [o5 3 (by unfold gsK; omega)]; exact w1
          · rw [o4 157 (by decide), m3 157 (by decide) (by decide), e4 157 (by decide)]; exact hYt
        · have hE : jnE t n (.inr (a, b, q')) = .inl (1, q') := by show (if _ then _ else _) = _; rw [if_neg k3']
          obtain ⟨v1, v2, v3⟩ := a4.1 1 q' hE
          exact ⟨up2 (up2 K 156 3 1) 156 4 (tkS t n q' : Int), goto _ (c1_no hl2 w3 w1 k3'), rdF_trans e3 (rdF_trans m2 rdF_bad), fun _ => ⟨v1.symm ▸ rfl, by rw [v2]; exact up2_same _ _ _ _⟩, fun w => absurd w (by rw [v1]; decide)⟩
end
end
