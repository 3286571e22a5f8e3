/-! ===== a rule is read: the reference's, whole ===== -/
noncomputable section
def ruB (t : Nat → Int) (n q2 : Nat) (v a b : Int) : (Int × Nat) ⊕ (Nat × (Nat → Int)) := if wdK t n q2 ≠ 4 then .inl (1, q2) else
    match rgP t n (tkE t n q2) with
    | .inl e => .inl e
    | .inr (c, e, q3) => ruC t n q3 v a b c e
def ruA (t : Nat → Int) (n q1 : Nat) (v : Int) : (Int × Nat) ⊕ (Nat × (Nat → Int)) := if wdK t n q1 ≠ 3 then .inl (1, q1) else
  match rgP t n (tkE t n q1) with
  | .inl e => .inl e
  | .inr (a, b, q2) => ruB t n q2 v a b
section
variable {d : Nat} {I J K X Y : Nat → Nat → Int} {S : PS} {U n N R q x : Nat} {t A : Nat → Int} {lo hi : Int}
theorem ruP_A : ruP t n q = if nfK t n q 1 99 ≠ 0 then .inl (nfK t n q 1 99, q) else ruA t n (tkE t n q) (gsV t n q) := rfl
theorem flR_bad (h : flR X J) {k : Int} {q' : Nat} {P : (Int × Nat) ⊕ (Nat × (Nat → Int))} (hP : P = .inl (k, q')) (h3 : X 156 3 = k) (h4 : X 156 4 = (tkS t n q' : Int)) : rmQ t n R P A J := rmQ_bad hP (by rw [h.1]; exact h3) (by rw [h.1]; exact h4)
theorem rmQ_A {P : (Int × Nat) ⊕ (Nat × (Nat → Int))} {A B : Nat → Int} (h : rmQ t n R P A J) (e : ∀ k, ¬(8 * R ≤ k ∧ k < 8 * R + 8) → A k = B k) : rmQ t n R P B J := ⟨h.1, fun q' w hh => ⟨(h.2 q' w hh).1, (h.2 q' w hh).2.1, fun k hk => ((h.2 q' w hh).2.2.1 k hk).trans (e k hk), (h.2 q' w hh).2.2.2⟩⟩
theorem ru_g69 (hl0 : LyX12 S) (hb : ∀ k, 0 ≤ t k ∧ t k ≤ 255) (hn : n ≤ 700) (hq : q ≤ n) (hR : R < 6) (ht : X 157 = t) (hk : TKm X t n q) (h3 : X 156 3 = 0) (h17 : X 156 17 = (R : Int)) {v a b c e : Int} (hv : X 163 (8 * R) = v ∧ X 163 (8 * R + 1) = a ∧ X 163 (8 * R + 2) = b ∧ X 163 (8 * R + 3) = c ∧ X 163 (8 * R + 4) = e) : ∃ J, L_X12_readsRule_69 d 156 (8 * (R : Int)) X S (J, S) ∧ ruF R X J ∧ rmQ t n R (ruC t n q v a b c e) (X 163) J := by
  have e5 : (8 * (R : Int) + 5).toNat = 8 * R + 5 := by omega
  have e6 : (8 * (R : Int) + 6).toNat = 8 * R + 6 := by omega
  have e7 : (8 * (R : Int) + 7).toNat = 8 * R + 7 := by omega
  have o : ∀ k, k ≠ 8 * R + 5 → k ≠ 8 * R + 6 → k ≠ 8 * R + 7 → (up2 (up2 (up2 X 163 (8 * R + 5) 0) 163 (8 * R + 6) 0) 163 (8 * R + 7) 0) 163 k = X 163 k := fun k h1 h2 h3 => by rw [up2_k _ h3, up2_k _ h2, up2_k _ h1]
  obtain ⟨J, a1, a2, a3⟩ := ru_g106 (d := d) (X := up2 (up2 (up2 X 163 (8 * R + 5) 0) 163 (8 * R + 6) 0) 163 (8 * R + 7) 0) (R := R) (v := v) (a := a) (b := b) (c := c) (e := e) hl0 hb hn hq hR (by rw [← ht]; exact funext (fun j => by rw [up2_a _ (by decide), up2_a _ (by decide), up2_a _ (by decide)])) (TKm_163 (TKm_163 (TKm_163 hk))) h3 h17 ⟨by rw [o _ (by omega) (by omega) (by omega)]; exact hv.1, by rw [o _ (by omega) (by omega) (by omega)]; exact hv.2.1, by rw [o _ (by omega) (by omega) (by omega)]; exact hv.2.2.1, by rw [o _ (by omega) (by omega) (by omega)]; exact hv.2.2.2.1, by rw [o _ (by omega) (by omega) (by omega)]; exact hv.2.2.2.2⟩ ⟨by rw [up2_k _ (by omega), up2_k _ (by omega), up2_same], by rw [up2_k _ (by omega), up2_same], up2_same _ _ _ _⟩
  refine ⟨J, w_X12_readsRule_69 hl0 (fun _ => by rw [e5, e6, e7]; exact a1) (e1 := fun w => absurd h3 w) (v2 := by omega) (v4 := by omega) (v6 := by omega), ruF_trans (ruF_fl (flR_trans flR_up (flR_trans flR_up flR_up))) a2, rmQ_A a3 (fun k hk' => o k (by omega) (by omega) (by omega))⟩
theorem ru_g62 (hl0 : LyX12 S) (hb : ∀ k, 0 ≤ t k ∧ t k ≤ 255) (hn : n ≤ 700) (hq : q ≤ n) (hR : R < 6) (ht : X 157 = t) (hk : TKm X t n q) (h3 : X 156 3 = 0) (h17 : X 156 17 = (R : Int)) {v a b : Int} (hv : X 163 (8 * R) = v ∧ X 163 (8 * R + 1) = a ∧ X 163 (8 * R + 2) = b) : ∃ J, L_X12_readsRule_62 d 156 (8 * (R : Int)) X S (J, S) ∧ ruF R X J ∧ rmQ t n R (match rgP t n q with | .inl e => .inl e | .inr (c, e, q3) => ruC t n q3 v a b c e) (X 163) J := by
  obtain ⟨J2, y1, y2, y3, y4, y5, y6, y7⟩ := rr_M (d := d) (x := 8 * R + 3) hl0 hb hn hq ht hk h3 (by omega)
  have F2 : ruF R X J2 := ⟨y2, y3, y4 16 (by unfold gsK; omega), y4 18 (by unfold gsK; omega)⟩
  have e17 : J2 156 17 = (R : Int) := by rw [y4 17 (by unfold gsK; omega)]; exact h17
  rcases hr : rgP t n q with ⟨k, q'⟩ | ⟨f, g, q4⟩
  · obtain ⟨z1, z2⟩ := y6 k q' hr
    obtain ⟨J3, b1, b2⟩ := ru_f69 (d := d) (J := J2) (R := R) hl0 (by rw [z1]; exact rgP_n hr) hR
    exact ⟨J3, w_X12_readsRule_62 hl0 y1 b1 (v1 := by omega), ruF_trans F2 (ruF_fl b2), flR_bad b2 rfl z1 z2⟩
  · obtain ⟨z1, z2, z3, z4⟩ := y7 f g q4 hr
    obtain ⟨J3, b1, b2, b3⟩ := ru_g69 (d := d) (X := J2) (R := R) (q := q4) (v := v) (a := a) (b := b) (c := f) (e := g) hl0 hb hn (rgP_in hq hr).1 hR (by rw [y3 157 (by decide) (by decide)]; exact ht) z4 z1 e17 ⟨by rw [y5 _ (by omega) (by omega)]; exact hv.1, by rw [y5 _ (by omega) (by omega)]; exact hv.2.1, by rw [y5 _ (by omega) (by omega)]; exact hv.2.2, z2, z3⟩
    exact ⟨J3, w_X12_readsRule_62 hl0 y1 b1 (v1 := by omega), ruF_trans F2 b2, rmQ_A b3 (fun k hk' => y5 k (by omega) (by omega))⟩
theorem ru_g45 (hl0 : LyX12 S) (hb : ∀ k, 0 ≤ t k ∧ t k ≤ 255) (hn : n ≤ 700) (hq : q ≤ n) (hR : R < 6) (ht : X 157 = t) (hk : TKm X t n q) (h3 : X 156 3 = 0) (h17 : X 156 17 = (R : Int)) {v a b : Int} (hv : X 163 (8 * R) = v ∧ X 163 (8 * R + 1) = a ∧ X 163 (8 * R + 2) = b) : ∃ J, L_X12_readsRule_45 d 156 (8 * (R : Int)) X S (J, S) ∧ ruF R X J ∧ rmQ t n R (ruB t n q v a b) (X 163) J := by
  have kw : kwM X = wdK t n q := kw_M hk hq
  have hin := tk_in t hq
  unfold ruB
  by_cases w4 : wdK t n q = 4
  · rw [if_neg (fun w => w w4)]
    obtain ⟨g1, g2, g3, g4, g5⟩ := ne_y (d := d + 1) (b := kwM X = 4) hl0 ht hb hk hn hq h3 (by rw [kw]; exact w4)
    obtain ⟨J3, b1, b2, b3⟩ := ru_g62 (d := d) (X := gsI X) (R := R) (q := tkE t n q) (v := v) (a := a) (b := b) hl0 hb hn hin.2.2.2 hR (by rw [g4 157 (by decide)]; exact ht) g2 (by rw [g5 3 (by unfold gsK; omega)]; exact h3) (by rw [g5 17 (by unfold gsK; omega)]; exact h17) (by rw [g4 163 (by decide)]; exact hv)
    rw [g4 163 (by decide)] at b3
    exact ⟨J3, w_X12_readsRule_45 hl0 g1 b1, ruF_trans (ruF_go g3 g4 g5) b2, b3⟩
  · rw [if_pos w4]
    have g1 := ne_n (d := d + 1) (b := kwM X = 4) hl0 hk h3 (by rw [kw]; exact w4)
    obtain ⟨J3, b1, b2⟩ := ru_f62 (d := d) (J := up2 (up2 X 156 3 1) 156 4 (tkS t n q : Int)) (R := R) hl0 (fun w => absurd w (show ¬((1 : Int) = 0) by decide)) hR
    exact ⟨J3, w_X12_readsRule_45 hl0 g1 b1, ruF_trans ruF_bad (ruF_fl b2), flR_bad b2 rfl rfl (up2_same _ _ _ _)⟩
theorem ru_g38 (hl0 : LyX12 S) (hb : ∀ k, 0 ≤ t k ∧ t k ≤ 255) (hn : n ≤ 700) (hq : q ≤ n) (hR : R < 6) (ht : X 157 = t) (hk : TKm X t n q) (h3 : X 156 3 = 0) (h17 : X 156 17 = (R : Int)) {v : Int} (hv : X 163 (8 * R) = v) : ∃ J, L_X12_readsRule_38 d 156 (8 * (R : Int)) X S (J, S) ∧ ruF R X J ∧ rmQ t n R (match rgP t n q with | .inl e => .inl e | .inr (a, b, q2) => ruB t n q2 v a b) (X 163) J := by
  obtain ⟨J2, y1, y2, y3, y4, y5, y6, y7⟩ := rr_M (d := d) (x := 8 * R + 1) hl0 hb hn hq ht hk h3 (by omega)
  have F2 : ruF R X J2 := ⟨y2, y3, y4 16 (by unfold gsK; omega), y4 18 (by unfold gsK; omega)⟩
  have e17 : J2 156 17 = (R : Int) := by rw [y4 17 (by unfold gsK; omega)]; exact h17
  rcases hr : rgP t n q with ⟨k, q'⟩ | ⟨f, g, q4⟩
  · obtain ⟨z1, z2⟩ := y6 k q' hr
    obtain ⟨J3, b1, b2⟩ := ru_f45 (d := d) (J := J2) (R := R) hl0 (by rw [z1]; exact rgP_n hr) hR
    exact ⟨J3, w_X12_readsRule_38 hl0 y1 b1 (v1 := by omega), ruF_trans F2 (ruF_fl b2), flR_bad b2 rfl z1 z2⟩
  · obtain ⟨z1, z2, z3, z4⟩ := y7 f g q4 hr
    obtain ⟨J3, b1, b2, b3⟩ := ru_g45 (d := d) (X := J2) (R := R) (q := q4) (v := v) (a := f) (b := g) hl0 hb hn (rgP_in hq hr).1 hR (by rw [y3 157 (by decide) (by decide)]; exact ht) z4 z1 e17 ⟨by rw [y5 _ (by omega) (by omega)]; exact hv, z2, z3⟩
    exact ⟨J3, w_X12_readsRule_38 hl0 y1 b1 (v1 := by omega), ruF_trans F2 b2, rmQ_A b3 (fun k hk' => y5 k (by omega) (by omega))⟩
/-- the whole of it -/
theorem ru_M (hl0 : LyX12 S) (hb : ∀ k, 0 ≤ t k ∧ t k ≤ 255) (hn : n ≤ 700) (hq : q ≤ n) (hR : R < 6) (ht : X 157 = t) (hk : TKm X t n q) (h3 : X 156 3 = 0) (h17 : X 156 17 = (R : Int)) : ∃ J, Ca (d + 5) mX12_readsRule [vR (some (22, 0, 156))] (X, S) (.inl none) (J, S) ∧ ruF R X J ∧ rmQ t n R (ruP t n q) (X 163) J := by
  have hin := tk_in t hq
  have e0 : (8 * (R : Int)).toNat = 8 * R := by omega
  rw [ruP_A]
  by_cases c : nfK t n q 1 99 = 0
  · rw [if_neg (fun w => w c)]
    obtain ⟨g1, g2, g3, g4, g5⟩ := nu_y (d := d + 1) hl0 ht hb hk hn hq h3 c
    have hk2 : TKm (up2 (gsI X) 163 (8 * R) (gsV t n q)) t n (tkE t n q) := TKm_163 g2
    have h32 : (up2 (gsI X) 163 (8 * R) (gsV t n q)) 156 3 = 0 := by rw [up2_a _ (by decide), g5 3 (by unfold gsK; omega)]; exact h3
    have h172 : (up2 (gsI X) 163 (8 * R) (gsV t n q)) 156 17 = (R : Int) := by rw [up2_a _ (by decide), g5 17 (by unfold gsK; omega)]; exact h17
    have ht2 : (up2 (gsI X) 163 (8 * R) (gsV t n q)) 157 = t := by rw [← ht]; funext k; rw [up2_a _ (by decide), g4 157 (by decide)]
    have kw : kwM (up2 (gsI X) 163 (8 * R) (gsV t n q)) = wdK t n (tkE t n q) := kw_M hk2 hin.2.2.2
    have F1 : ruF R X (up2 (gsI X) 163 (8 * R) (gsV t n q)) := ruF_trans (ruF_go g3 g4 g5) (ruF_fl flR_up)
    unfold ruA
    by_cases w3 : wdK t n (tkE t n q) = 3
    · rw [if_neg (fun w => w w3)]
      obtain ⟨y1, y2, y3, y4, y5⟩ := ne_y (d := d + 1) (b := kwM (up2 (gsI X) 163 (8 * R) (gsV t n q)) = 3) hl0 ht2 hb hk2 hn hin.2.2.2 h32 (by rw [kw]; exact w3)
      obtain ⟨J3, b1, b2, b3⟩ := ru_g38 (d := d) (X := gsI (up2 (gsI X) 163 (8 * R) (gsV t n q))) (R := R) (q := tkE t n (tkE t n q)) (v := gsV t n q) hl0 hb hn (tk_in t hin.2.2.2).2.2.2 hR (by rw [y4 157 (by decide)]; exact ht2) y2 (by rw [y5 3 (by unfold gsK; omega)]; exact h32) (by rw [y5 17 (by unfold gsK; omega)]; exact h172) (by rw [y4 163 (by decide), up2_same])
      refine ⟨J3, w_X12_readsRule_0 (J1 := gsI X) (J2 := gsI (up2 (gsI X) 163 (8 * R) (gsV t n q))) hl0 g1 (by rw [h17, e0]; exact y1) (by rw [h17]; exact b1) (v1 := by rw [h17]; omega) (v2 := by rw [h17]; omega), ruF_trans F1 (ruF_trans (ruF_go y3 y4 y5) b2), rmQ_A b3 (fun k hk' => ?_)⟩
      rw [y4 163 (by decide), up2_k _ (by omega), g4 163 (by decide)]
    · rw [if_pos w3]
      have y1 := ne_n (d := d + 1) (b := kwM (up2 (gsI X) 163 (8 * R) (gsV t n q)) = 3) hl0 hk2 h32 (by rw [kw]; exact w3)
      obtain ⟨J3, b1, b2⟩ := ru_f38 (d := d) (J := up2 (up2 (up2 (gsI X) 163 (8 * R) (gsV t n q)) 156 3 1) 156 4 (tkS t n (tkE t n q) : Int)) (R := R) hl0 (fun w => absurd w (show ¬((1 : Int) = 0) by decide)) hR
      exact ⟨J3, w_X12_readsRule_0 (J1 := gsI X) (J2 := up2 (up2 (up2 (gsI X) 163 (8 * R) (gsV t n q)) 156 3 1) 156 4 (tkS t n (tkE t n q) : Int)) hl0 g1 (by rw [h17, e0]; exact y1) (by rw [h17]; exact b1) (v1 := by rw [h17]; omega) (v2 := by rw [h17]; omega), ruF_trans F1 (ruF_trans ruF_bad (ruF_fl b2)), flR_bad b2 rfl rfl (up2_same _ _ _ _)⟩
  · rw [if_pos c]
    have y1 := nu_n (d := d + 1) hl0 hk h3 c
    have e3 : (up2 (up2 (up2 X 156 3 (nfK t n q 1 99)) 156 4 (tkS t n q : Int)) 163 (8 * R) (gsV t n q)) 156 3 = nfK t n q 1 99 := rfl
    have h33 : ¬(up2 (up2 (up2 X 156 3 (nfK t n q 1 99)) 156 4 (tkS t n q : Int)) 163 (8 * R) (gsV t n q)) 156 3 = 0 := by rw [e3]; exact c
    obtain ⟨J3, b1, b2⟩ := ru_f38 (d := d) (J := up2 (up2 (up2 X 156 3 (nfK t n q 1 99)) 156 4 (tkS t n q : Int)) 163 (8 * R) (gsV t n q)) (R := R) hl0 h33 hR
    refine ⟨J3, w_X12_readsRule_0 (J1 := up2 (up2 X 156 3 (nfK t n q 1 99)) 156 4 (tkS t n q : Int)) (J2 := up2 (up2 (up2 X 156 3 (nfK t n q 1 99)) 156 4 (tkS t n q : Int)) 163 (8 * R) (gsV t n q)) hl0 y1 (by rw [h17, e0]; exact ne_0 (d := d + 1) hl0 h33) (by rw [h17]; exact b1) (v1 := by rw [h17]; omega) (v2 := by rw [h17]; omega), ruF_trans ruF_bad (ruF_trans (ruF_fl flR_up) (ruF_fl b2)), flR_bad b2 rfl e3 ?_⟩
    rw [up2_a _ (by decide), up2_same]
end
end
