/-! ===== a line that tells a piece, both sides ===== -/
noncomputable section
def rrY (t : Nat → Int) (n q U P R N : Nat) (X Y : Nat → Nat → Int) : Prop := rrR U P R N X Y ∧ TKm Y t n q ∧ Y 156 3 = 0 ∧ Y 157 = t
/-- what a line leaves alone in the class -/
def drF (U : Nat) (X J : Nat → Nat → Int) : Prop := ∀ a, a ≠ 32 → ¬(U ≤ a ∧ a < U + 43) → J a = X a
/-- what a line comes to -/
def lnQ (t : Nat → Int) (n q U : Nat) (v : Int) (J K : Nat → Nat → Int) : Prop := (v ≠ 0 → K 156 3 = v ∧ K 156 4 = J 32 4) ∧ (v = 0 → ∃ q' P R N, (q < q' ∧ q' ≤ n) ∧ J 32 1 = (n : Int) ∧ J 32 2 = (q' : Int) ∧ rrY t n q' U P R N J K)
section
variable {d : Nat} {I J K X Y Y0 : Nat → Nat → Int} {S S2 : PS} {U P R N p n q : Nat} {t : Nat → Int}
theorem drF_trans (h : drF U X J) (g : drF U J K) : drF U X K := fun a h1 h2 => (g a h1 h2).trans (h a h1 h2)
theorem rrR_32 (hU : U = 34 ∨ U = 77) (h : rrR U P R N X Y) (hK : ∀ a, a ≠ 32 → K a = X a) : rrR U P R N K Y := by
  obtain ⟨h1, h2, h3, h4, h5, h6⟩ := h
  refine ⟨h1, by rw [hK U (by omega), hK (U + 2) (by omega)]; exact h2, h3, fun p hp => ?_, fun r hr => ?_, fun s hs => ?_⟩
  · obtain ⟨g1, g2⟩ := h4 p hp
    exact ⟨pc_frame g1 (fun k _ => by rw [hK _ (by omega)]) (hK _ (by omega)) (hK _ (by omega)) (hK _ (by omega)) (fun _ _ _ => rfl) (fun _ _ _ => rfl), by rw [hK _ (by omega)]; exact g2⟩
  · exact ruR_frame (h5 r hr) (fun k _ _ => by rw [hK _ (by omega)]) (fun _ _ _ => rfl)
  · exact stR_frame (h6 s hs) (by rw [hK _ (by omega)]) (by rw [hK _ (by omega)]) (fun k _ _ => by rw [hK _ (by omega)]) (fun _ _ _ => rfl)
theorem rrR_Y (h : rrR U P R N X Y) (h6 : ∀ k, k = 16 ∨ k = 17 ∨ k = 18 → K 156 k = Y 156 k) (hK : ∀ a, a ≠ 156 → K a = Y a) : rrR U P R N X K := by
  obtain ⟨h1, h2, h3, h4, h5, h6'⟩ := h
  refine ⟨h1, h2, ?_, ?_, ?_, ?_⟩
  · rw [h6 16 (by omega), h6 17 (by omega), h6 18 (by omega)]; exact h3
  · rw [hK 162 (by decide), hK 166 (by decide)]; exact h4
  · rw [hK 163 (by decide)]; exact h5
  · rw [hK 164 (by decide)]; exact h6'
theorem pcP_r {s q' : Nat} {B : Nat → Int} (h : pcP t n q = .inr (s, q', B)) : 5 ≤ (gsV t n q).toNat ∧ (gsV t n q).toNat ≤ 7 := by
  unfold pcP at h
  by_cases c : nfK t n q 5 7 = 0
  · have := nf_0 c; omega
  · rw [if_pos c] at h; cases h
theorem ln_P (hU : U = 34 ∨ U = 77) (hl0 : LyX10 S) (hl1 : LyX0 S U) (hl2 : LyX12 S2) (hb : ∀ k, 0 ≤ t k ∧ t k ≤ 255) (hn : n ≤ 700) (hq : q ≤ n) (ht : txR (X 33) t) (hk : TKc X t n q) (hw : wdK t n q = 0) (h0 : tkK t n q ≠ 0) (hR : rrR U P R N X Y0) : ∃ v J, Ca (d + 5) mX5_readPiece [vR (some (20, 0, 32)), vR (some (11, 0, U))] (X, S) (.inl (some (vI v))) (J, S) ∧ drF U X J ∧ ∀ Y, rrY t n q U P R N X Y → ∃ K, Ca (d + 6) mX12_clause [vR (some (22, 0, 156))] (Y, S2) (.inl none) (K, S2) ∧ rdF Y K ∧ lnQ t n q U v J K := by
  have hin := tk_in t hq
  have hpos := tk_pos t h0
  obtain ⟨⟨p1, p2, p3⟩, ⟨x1, x2, x3⟩, _⟩ := id hR
  by_cases c4 : P = 4
  · refine ⟨2, X, rp_4 hl0 hl1 (by rw [x1, c4]; rfl), fun _ _ _ => rfl, fun Y hY => ?_⟩
    obtain ⟨hR', hkY, hY3, hYt⟩ := hY
    obtain ⟨_, _, ⟨y1, y2, y3⟩, _⟩ := id hR'
    have b1 := bg_2 (d := d + 1) (b1 := Y 156 16 = 4) (b2 := False) hl2 hkY hY3 (by rw [y1, c4]; rfl) (fun w => w)
    refine ⟨up2 (up2 Y 156 3 2) 156 4 (tkS t n q : Int), cl_0 (J8 := up2 (up2 Y 156 3 2) 156 4 (tkS t n q : Int)) (J9 := Y) (z8 := false) hl2 (by rw [kw_M hkY hq]; exact hw) (by omega) b1 (fun _ => c1_bad hl2 (fun w => absurd w (show ¬((2 : Int) = 0) by decide))) (fun w => absurd w (by decide)) (fun w => absurd w (by decide)), rdF_bad, fun _ => ⟨rfl, hk.2.2.1.symm ▸ up2_same _ _ _ _⟩, fun w => absurd w (by decide)⟩
  · obtain ⟨A, hA⟩ : ∃ A, A = U + 7 + 9 * P := ⟨_, rfl⟩
    obtain ⟨v, J, a1, a2, a3⟩ := rp_C (d := d) (p := P) (q := tkE t n q) hU hA hl0 hl1 ht hn (by omega) hin.2.2.2 hk.1 hk.2.1 x1
    refine ⟨v, J, a1, fun a h1 h2 => a2.1 a h1 (by omega) (by omega) (by omega) (by omega) (by omega), fun Y hY => ?_⟩
    obtain ⟨hR', hkY, hY3, hYt⟩ := hY
    obtain ⟨_, _, ⟨y1, y2, y3⟩, y4, y5, y6⟩ := id hR'
    have b1 := bg_y (d := d + 1) (b1 := Y 156 16 = 4) (b2 := False) hl2 hYt hb hkY hn hq hY3 (by omega) (fun w => w)
    obtain ⟨g1, g2, g3, g4, g5⟩ := rdF_go (d := d + 2) hl2 hYt hb hkY hn hq
    obtain ⟨K, m1, m2, m3⟩ := rp_M (d := d) (X := gsI Y) (p := P) (q := tkE t n q) hl2 hb hn (by omega) hin.2.2.2 (by rw [g4 157 (by decide)]; exact hYt) g2 (by rw [g5 3 (by unfold gsK; omega)]; exact hY3) (by rw [g5 16 (by unfold gsK; omega)]; exact y1)
    have goto : ∀ K', L_X12_clause_175 d 156 (kwM Y) K S2 (K', S2) → Ca (d + 6) mX12_clause [vR (some (22, 0, 156))] (Y, S2) (.inl none) (K', S2) := fun K' kk => cl_0 (J8 := gsI Y) (J9 := K) (z8 := true) hl2 (by rw [kw_M hkY hq]; exact hw) (by omega) b1 (fun w => absurd rfl w) (fun _ => m1) (fun _ => kk)
    rcases hP : pcP t n (tkE t n q) with ⟨k, q'⟩ | ⟨s, q', B⟩
    · obtain ⟨v1, v2, v3⟩ := a3.1 k q' hP
      obtain ⟨w1, w2, w3⟩ := m3.1 k q' hP
      refine ⟨K, goto K (c1_bad hl2 (by rw [w1]; exact w3)), rdF_trans g3 (pwF_rd m2), fun _ => ⟨by rw [w1, v1], by rw [w2, v2]⟩, fun w => absurd w (by rw [v1]; exact v3)⟩
    · obtain ⟨v1, v2, v3, v4, v5, v6⟩ := a3.2 s q' B hP
      obtain ⟨w1, w2, w3, w4, w5, w6, w7, w8, w9⟩ := m3.2 s q' B hP
      have hH := pcP_r hP
      obtain ⟨e1, e2, e3, e4, e5⟩ := rdF_go (d := d + 2) (X := K) hl2 (by rw [m2.1 157 (by decide) (by decide) (by decide), g4 157 (by decide)]; exact hYt) hb w4 hn w5
      have hin' := tk_in t w5
      have hq' : tkE t n q ≤ q' := by
        have : ∀ (f i q0 : Nat) (A0 : Nat → Int), q0 ≤ n → ∀ s' q1 B', pcL t n (gsV t n (tkE t n q)).toNat f i q0 A0 = .inr (s', q1, B') → q0 ≤ q1 := by
          intro f
          induction f with
          | zero => intro i q0 A0 _ s' q1 B' h; cases h
          | succ f ih =>
            intro i q0 A0 h0 s' q1 B'
            have hi := tk_in t h0
            unfold pcL
            by_cases k2 : tkK t n q0 = 2
            · rw [if_pos k2]
              by_cases c1 : nfK t n q0 5 9 ≠ 0 ∨ (gsV t n (tkE t n q)).toNat ≤ i
              · rw [if_pos c1]; intro h; cases h
              · rw [if_neg c1]; intro h
                have := ih (i + 1) (tkE t n q0) _ hi.2.2.2 s' q1 B' h
                omega
            · rw [if_neg k2]
              by_cases k3 : tkK t n q0 = 3
              · rw [if_pos k3]
                by_cases k4 : rsz (gsV t n (tkE t n q)).toNat i A0 ≤ 7
                · rw [if_pos k4]; intro h; cases h; exact Nat.le_refl _
                · rw [if_neg k4]; intro h; cases h
              · rw [if_neg k3]; intro h; cases h
        have hi2 := tk_in t hin.2.2.2
        unfold pcP at hP
        by_cases c : nfK t n (tkE t n q) 5 7 = 0
        · rw [if_neg (fun w => w c)] at hP
          have := this _ _ _ _ hi2.2.2.2 s q' B hP
          omega
        · rw [if_pos c] at hP; cases hP
      have F : pwF P (gsI Y) K := m2
      refine ⟨gsI K, goto _ (c1_y hl2 (by rw [m2.1 157 (by decide) (by decide) (by decide), g4 157 (by decide)]; exact hYt) hb w4 hn w5 w1 w6), rdF_trans g3 (rdF_trans (pwF_rd m2) e3), fun w => absurd v1 w, fun _ => ⟨tkE t n q', P + 1, R, N, ⟨by omega, hin'.2.2.2⟩, v4, v5, ⟨⟨by omega, by omega, by omega⟩, ⟨v2, ?_, ?_⟩, ⟨?_, ?_, ?_⟩, fun p hp => ?_, fun r hr => ?_, fun s' hs => ?_⟩, e2, ?_, ?_⟩⟩
      · rw [a2.1 (U + 2) (by omega) (by omega) (by omega) (by omega) (by omega) (by omega)]; exact x2
      · rw [a2.2 6 (by decide)]; exact x3
      · rw [e5 16 (by unfold gsK; omega), w2]; rfl
      · rw [e5 17 (by unfold gsK; omega), F.2.1 17 (by unfold gsK; omega), g5 17 (by unfold gsK; omega)]; exact y2
      · rw [e5 18 (by unfold gsK; omega), F.2.1 18 (by unfold gsK; omega), g5 18 (by unfold gsK; omega)]; exact y3
      · rw [e4 162 (by decide), e4 166 (by decide)]
        by_cases hpP : p = P
        · subst hpP
          rw [← hA]
          exact ⟨pc_start hH w7 w8 w9 v3 w3, v3.2.2.2.2.1⟩
        · obtain ⟨z1, z2⟩ := y4 p (by omega)
          refine ⟨pc_frame z1 (fun k _ => by rw [a2.1 _ (by omega) (by omega) (by omega) (by omega) (by omega) (by omega)]) (a2.1 _ (by omega) (by omega) (by omega) (by omega) (by omega) (by omega)) (a2.1 _ (by omega) (by omega) (by omega) (by omega) (by omega) (by omega)) (a2.1 _ (by omega) (by omega) (by omega) (by omega) (by omega) (by omega)) (fun k h1 h2 => by rw [F.2.2.1 k (by omega), g4 162 (by decide)]) (fun k h1 h2 => by rw [F.2.2.2.1 k (by omega), g4 166 (by decide)]), ?_⟩
          rw [a2.1 _ (by omega) (by omega) (by omega) (by omega) (by omega) (by omega)]; exact z2
      · rw [e4 163 (by decide), F.1 163 (by decide) (by decide) (by decide), g4 163 (by decide)]
        exact ruR_frame (y5 r hr) (fun k _ _ => by rw [a2.1 (U + 3) (by omega) (by omega) (by omega) (by omega) (by omega) (by omega)]) (fun _ _ _ => rfl)
      · rw [e4 164 (by decide), F.1 164 (by decide) (by decide) (by decide), g4 164 (by decide)]
        exact stR_frame (y6 s' hs) (by rw [a2.1 (U + 4) (by omega) (by omega) (by omega) (by omega) (by omega) (by omega)]) (by rw [a2.1 (U + 5) (by omega) (by omega) (by omega) (by omega) (by omega) (by omega)]) (fun k _ _ => by rw [a2.1 (U + 6) (by omega) (by omega) (by omega) (by omega) (by omega) (by omega)]) (fun _ _ _ => rfl)
      · rw [e5 3 (by unfold gsK; omega)]; exact w1
      · rw [e4 157 (by decide), F.1 157 (by decide) (by decide) (by decide), g4 157 (by decide)]; exact hYt
end
end
