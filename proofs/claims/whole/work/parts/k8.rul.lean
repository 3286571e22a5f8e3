/-! ===== a rule is read: the reference's, to its end ===== -/
noncomputable section
def ruC (t : Nat → Int) (n q3 : Nat) (v a b c e : Int) : (Int × Nat) ⊕ (Nat × (Nat → Int)) := if wdK t n q3 = 5 ∨ wdK t n q3 = 6 then
        match rgP t n (tkE t n q3) with
        | .inl e => .inl e
        | .inr (f, g, q4) => .inr (q4, fun k => ([v, a, b, c, e, f, g, (if wdK t n q3 = 5 then 1 else 2)] : List Int).getD k 0)
      else .inr (q3, fun k => ([v, a, b, c, e] : List Int).getD k 0)
section
variable {d : Nat} {I J K X Y : Nat → Nat → Int} {S : PS} {U n N R q x : Nat} {t A : Nat → Int} {lo hi : Int}
/-- what a rule that is read leaves alone -/
def ruF (R : Nat) (X J : Nat → Nat → Int) : Prop := rdF X J ∧ (∀ a, a ≠ 156 → a ≠ 163 → J a = X a) ∧ J 156 16 = X 156 16 ∧ J 156 18 = X 156 18
theorem ruF_trans (h : ruF R X J) (g : ruF R J K) : ruF R X K := ⟨rdF_trans h.1 g.1, fun a h1 h2 => by rw [g.2.1 a h1 h2]; exact h.2.1 a h1 h2, g.2.2.1.trans h.2.2.1, g.2.2.2.trans h.2.2.2⟩
theorem ruF_fl (h : flR X J) : ruF R X J := ⟨flR_rd h, fun a _ h2 => h.2 a h2, by rw [h.1], by rw [h.1]⟩
theorem ruF_go (h3 : rdF X J) (h4 : ∀ a, a ≠ 156 → J a = X a) (h5 : ∀ k, ¬gsK k → J 156 k = X 156 k) : ruF R X J := ⟨h3, fun a h1 _ => h4 a h1, h5 16 (by unfold gsK; omega), h5 18 (by unfold gsK; omega)⟩
theorem ruF_bad {k v : Int} (hk : k ≠ 0 := by first | decide | assumption | omega) : ruF R X (up2 (up2 X 156 3 k) 156 4 v) := ⟨rdF_bad hk, fun a h1 _ => funext (fun j => by rw [up2_a _ h1, up2_a _ h1]), rfl, rfl⟩
/-- what reading a rule leaves in the reference -/
def rmQ (t : Nat → Int) (n R : Nat) (P : (Int × Nat) ⊕ (Nat × (Nat → Int))) (A : Nat → Int) (J : Nat → Nat → Int) : Prop := (∀ k q', P = .inl (k, q') → J 156 3 = k ∧ J 156 4 = (tkS t n q' : Int)) ∧ ∀ q' w, P = .inr (q', w) → J 156 3 = 0 ∧ (∀ k, k < 8 → J 163 (8 * R + k) = w k) ∧ (∀ k, ¬(8 * R ≤ k ∧ k < 8 * R + 8) → J 163 k = A k) ∧ J 156 17 = (R : Int) + 1 ∧ TKm J t n q'
theorem rmQ_bad {P : (Int × Nat) ⊕ (Nat × (Nat → Int))} {k : Int} {q' : Nat} (hP : P = .inl (k, q')) (h3 : J 156 3 = k) (h4 : J 156 4 = (tkS t n q' : Int)) : rmQ t n R P A J := by
  refine ⟨fun k' q'' e => ?_, fun q'' w e => ?_⟩
  · rw [hP] at e; cases e; exact ⟨h3, h4⟩
  · rw [hP] at e; cases e
theorem TKm_163 {k : Nat} {v : Int} (h : TKm J t n q) : TKm (up2 J 163 k v) t n q := by
  unfold TKm
  rw [show (up2 J 163 k v) 156 = J 156 from funext (fun j => up2_a _ (by decide))]
  exact h
theorem ru_17 (h : TKm J t n q) {v : Int} : TKm (up2 J 156 17 v) t n q := h
theorem ru_h (hl0 : LyX12 S) (hb : ∀ k, 0 ≤ t k ∧ t k ≤ 255) (hn : n ≤ 700) (hq : q ≤ n) (hR : R < 6) (ht : Y 157 = t) (hk : TKm Y t n q) (h3 : Y 156 3 = 0) (h17 : Y 156 17 = (R : Int)) {x2 : Int} (hw : wdK t n q = 5 ∨ wdK t n q = 6) {v a b c e : Int} (hv : Y 163 (8 * R) = v ∧ Y 163 (8 * R + 1) = a ∧ Y 163 (8 * R + 2) = b ∧ Y 163 (8 * R + 3) = c ∧ Y 163 (8 * R + 4) = e) (h7 : Y 163 (8 * R + 7) = if wdK t n q = 5 then 1 else 2) : ∃ J1 J2 J, Ca (d + 4) mX12_goes [vR (some (22, 0, 156))] (Y, S) (.inl none) (J1, S) ∧ Ca (d + 4) mX12_readsRange [vR (some (22, 0, 156)), vI (8 * (R : Int) + 5)] (J1, S) (.inl none) (J2, S) ∧ L_X12_readsRule_152 d 156 (8 * (R : Int)) x2 J2 S (J, S) ∧ ruF R Y J ∧ rmQ t n R (ruC t n q v a b c e) (Y 163) J := by
  have hin := tk_in t hq
  obtain ⟨g1, g2, g3, g4, g5⟩ := rdF_go (d := d + 3) hl0 ht hb hk hn hq
  have g33 : gsI Y 156 3 = 0 := by rw [g5 3 (by unfold gsK; omega)]; exact h3
  obtain ⟨J2, y1, y2, y3, y4, y5, y6, y7⟩ := rr_M (d := d) (x := 8 * R + 5) hl0 hb hn hin.2.2.2 (by rw [g4 157 (by decide)]; exact ht) g2 g33 (by omega)
  have y1' : Ca (d + 4) mX12_readsRange [vR (some (22, 0, 156)), vI (8 * (R : Int) + 5)] (gsI Y, S) (.inl none) (J2, S) := y1
  have F1 : ruF R Y (gsI Y) := ruF_go g3 g4 g5
  have F2 : ruF R (gsI Y) J2 := ⟨y2, y3, y4 16 (by unfold gsK; omega), y4 18 (by unfold gsK; omega)⟩
  have e17 : J2 156 17 = (R : Int) := by rw [y4 17 (by unfold gsK; omega), g5 17 (by unfold gsK; omega)]; exact h17
  have hP : ruC t n q v a b c e = match rgP t n (tkE t n q) with
        | .inl e => .inl e
        | .inr (f, g, q4) => .inr (q4, fun k => ([v, a, b, c, e, f, g, (if wdK t n q = 5 then 1 else 2)] : List Int).getD k 0) := by unfold ruC; rw [if_pos hw]
  rcases hr : rgP t n (tkE t n q) with ⟨k, q'⟩ | ⟨f, g, q4⟩
  · rw [hr] at hP
    obtain ⟨z1, z2⟩ := y6 k q' hr
    have hk0 : ¬J2 156 3 = 0 := by rw [z1]; exact rgP_n hr
    exact ⟨gsI Y, J2, J2, g1, y1', w_X12_readsRule_152 hl0 (e1 := fun _ => rfl) (e2 := fun w => absurd w hk0) (v1 := fun w => absurd w hk0), ruF_trans F1 F2, rmQ_bad hP z1 z2⟩
  · rw [hr] at hP
    obtain ⟨z1, z2, z3, z4⟩ := y7 f g q4 hr
    refine ⟨gsI Y, J2, up2 J2 156 17 (J2 156 17 + 1), g1, y1', w_X12_readsRule_152 hl0 (e1 := fun w => absurd z1 w) (e2 := fun _ => rfl) (v1 := fun _ => by rw [e17]; omega), ruF_trans F1 (ruF_trans F2 ⟨⟨fun a h1 _ _ _ _ => funext (fun j => up2_a _ h1), fun k hk' => up2_k _ (fun w => hk' (by unfold rdK; omega)), erR_eq rfl rfl⟩, fun a h1 _ => funext (fun j => up2_a _ h1), rfl, rfl⟩), fun k q' w => ?_, fun q' w' w => ?_⟩
    · rw [hP] at w; cases w
    · rw [hP] at w
      cases w
      have e163 : ∀ k, (up2 J2 156 17 (J2 156 17 + 1)) 163 k = J2 163 k := fun k => up2_a _ (by decide)
      have o : ∀ k, k ≠ 8 * R + 5 → k ≠ 8 * R + 6 → J2 163 k = Y 163 k := fun k h1 h2 => by rw [y5 k h1 (by omega), g4 163 (by decide)]
      refine ⟨z1, fun k hk' => ?_, fun k hk' => ?_, ?_, ru_17 z4⟩
      · rw [e163]
        match k, hk' with
        | 0, _ => rw [o _ (by omega) (by omega)]; exact hv.1
        | 1, _ => rw [o _ (by omega) (by omega)]; exact hv.2.1
        | 2, _ => rw [o _ (by omega) (by omega)]; exact hv.2.2.1
        | 3, _ => rw [o _ (by omega) (by omega)]; exact hv.2.2.2.1
        | 4, _ => rw [o _ (by omega) (by omega)]; exact hv.2.2.2.2
        | 5, _ => exact z2
        | 6, _ => exact z3
        | 7, _ => rw [o _ (by omega) (by omega)]; exact h7
      · rw [e163]; exact o k (by omega) (by omega)
      · rw [up2_same, e17]
/-- from the word behind both ranges -/
theorem ru_g106 (hl0 : LyX12 S) (hb : ∀ k, 0 ≤ t k ∧ t k ≤ 255) (hn : n ≤ 700) (hq : q ≤ n) (hR : R < 6) (ht : X 157 = t) (hk : TKm X t n q) (h3 : X 156 3 = 0) (h17 : X 156 17 = (R : Int)) {v a b c e : Int} (hv : X 163 (8 * R) = v ∧ X 163 (8 * R + 1) = a ∧ X 163 (8 * R + 2) = b ∧ X 163 (8 * R + 3) = c ∧ X 163 (8 * R + 4) = e) (h5 : X 163 (8 * R + 5) = 0 ∧ X 163 (8 * R + 6) = 0 ∧ X 163 (8 * R + 7) = 0) : ∃ J, L_X12_readsRule_106 d 156 (8 * (R : Int)) X S (J, S) ∧ ruF R X J ∧ rmQ t n R (ruC t n q v a b c e) (X 163) J := by
  have kw : kwM X = wdK t n q := kw_M hk hq
  have e7 : (8 * (R : Int) + 7).toNat = 8 * R + 7 := by omega
  by_cases hw : wdK t n q = 5 ∨ wdK t n q = 6
  · obtain ⟨J1, J2, J, a1, a2, a3, a4, a5⟩ := ru_h (d := d) (Y := up2 X 163 (8 * R + 7) (if wdK t n q ≠ 5 then (2 : Int) else 1)) (x2 := kwM X) (R := R) hl0 hb hn hq hR (by rw [← ht]; exact funext (fun j => up2_a _ (by decide))) (TKm_163 hk) h3 h17 hw (v := v) (a := a) (b := b) (c := c) (e := e) ⟨by rw [up2_k _ (by omega)]; exact hv.1, by rw [up2_k _ (by omega)]; exact hv.2.1, by rw [up2_k _ (by omega)]; exact hv.2.2.1, by rw [up2_k _ (by omega)]; exact hv.2.2.2.1, by rw [up2_k _ (by omega)]; exact hv.2.2.2.2⟩ (by rw [up2_same]; by_cases w5 : wdK t n q = 5 <;> simp [w5])
    have a1' : Ca (d + 4) mX12_goes [vR (some (22, 0, 156))] ((up2 X 163 ((8 * (R : Int) + 7).toNat) (if (kwM X) ≠ 5 then (2 : Int) else 1)), S) (.inl none) (J1, S) := by rw [e7, kw]; exact a1
    refine ⟨J, w_X12_readsRule_106 (J1 := J1) (J2 := J2) (J3 := J1) (J4 := J2) hl0 (fun _ => a1') (fun _ => a2) (fun _ => a3) (fun w1 w2 => absurd hw (by rw [← kw]; omega)) (fun _ _ => a1') (fun _ _ => a2) (fun _ _ => a3) (v2 := fun _ => by omega) (v5 := fun _ _ => by omega), ruF_trans (ruF_fl flR_up) a4, a5.1, fun q' w hh => ?_⟩
    obtain ⟨b1, b2, b3, b4⟩ := a5.2 q' w hh
    exact ⟨b1, b2, fun k hk' => by rw [b3 k hk', up2_k _ (by omega)], b4⟩
  · have hP : ruC t n q v a b c e = .inr (q, fun k => ([v, a, b, c, e] : List Int).getD k 0) := by unfold ruC; rw [if_neg hw]
    refine ⟨up2 X 156 17 (X 156 17 + 1), w_X12_readsRule_106 (J1 := X) (J2 := X) (J3 := X) (J4 := X) hl0 (fun w => absurd w (by rw [kw]; omega)) (fun w => absurd w (by rw [kw]; omega)) (fun w => absurd w (by rw [kw]; omega)) (fun _ _ => w_X12_readsRule_152 hl0 (e1 := fun w => absurd h3 w) (e2 := fun _ => rfl) (v1 := fun _ => by rw [h17]; omega)) (fun _ w => absurd w (by rw [kw]; omega)) (fun _ w => absurd w (by rw [kw]; omega)) (fun _ w => absurd w (by rw [kw]; omega)) (v2 := fun _ => by omega) (v5 := fun _ _ => by omega), ⟨⟨fun a h1 _ _ _ _ => funext (fun j => up2_a _ h1), fun k hk' => up2_k _ (fun w => hk' (by unfold rdK; omega)), erR_eq rfl rfl⟩, fun a h1 _ => funext (fun j => up2_a _ h1), rfl, rfl⟩, fun k q' w => ?_, fun q' w' w => ?_⟩
    · rw [hP] at w; cases w
    · rw [hP] at w
      cases w
      have e163 : ∀ k, (up2 X 156 17 (X 156 17 + 1)) 163 k = X 163 k := fun k => up2_a _ (by decide)
      refine ⟨h3, fun k hk' => ?_, fun k hk' => e163 k, ?_, ru_17 hk⟩
      · rw [e163]
        match k, hk' with
        | 0, _ => exact hv.1
        | 1, _ => exact hv.2.1
        | 2, _ => exact hv.2.2.1
        | 3, _ => exact hv.2.2.2.1
        | 4, _ => exact hv.2.2.2.2
        | 5, _ => exact h5.1
        | 6, _ => exact h5.2.1
        | 7, _ => exact h5.2.2
      · rw [up2_same, h17]
end
end
