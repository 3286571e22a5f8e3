/-! ===== a step of a plan, the reference's ===== -/
noncomputable section
def stK (k : Nat) : Prop := k = 3 ∨ k = 4 ∨ gsK k ∨ k = 48 ∨ k = 49 ∨ k = 50 ∨ k = 51 ∨ k = 55
def spF (I J : Nat → Nat → Int) : Prop := (∀ a, a ≠ 178 → a ≠ 184 → a ≠ 185 → a ≠ 186 → a ≠ 156 → J a = I a) ∧ (∀ i, i < 18 → J 178 i = I 178 i) ∧ (∀ k, k ≠ 2 → J 186 k = I 186 k) ∧ ∀ k, ¬stK k → J 156 k = I 156 k
section
variable {d : Nat} {I J K : Nat → Nat → Int} {S : PS} {m n p : Nat} {adj : Nat → Nat → Bool} {t : Nat → Int} {x : PT}
theorem spF_trans (h : spF I J) (g : spF J K) : spF I K := ⟨fun a h1 h2 h3 h4 h5 => by rw [g.1 a h1 h2 h3 h4 h5]; exact h.1 a h1 h2 h3 h4 h5, fun i hi => by rw [g.2.1 i hi]; exact h.2.1 i hi, fun k hk => by rw [g.2.2.1 k hk]; exact h.2.2.1 k hk, fun k hk => by rw [g.2.2.2 k hk]; exact h.2.2.2 k hk⟩
theorem spF_refl : spF I I := ⟨fun _ _ _ _ _ _ => rfl, fun _ _ => rfl, fun _ _ => rfl, fun _ _ => rfl⟩
theorem spF_156 (h : ∀ a, a ≠ 156 → J a = I a) (h2 : ∀ k, ¬stK k → J 156 k = I 156 k) : spF I J := ⟨fun a _ _ _ _ h5 => h a h5, fun i _ => by rw [h 178 (by decide)], fun k _ => by rw [h 186 (by decide)], h2⟩
theorem spF_df (h : dfF I J) : spF I J := ⟨h.1, h.2.1, h.2.2.1, fun k hk => h.2.2.2 k (fun e => hk (by unfold stK; omega)) (fun e => hk (by unfold stK; omega)) (fun e => hk (by unfold stK; omega))⟩
theorem mlR_of (h : mlR I m x) (e : ∀ a, a ≠ 156 → J a = I a) (e2 : ∀ k, k = 48 ∨ k = 49 ∨ k = 50 → J 156 k = I 156 k) : mlR J m x := by
  obtain ⟨c1, c2, c3, c4, c5, c6, c7⟩ := h
  refine ⟨fun i hi => ?_, by rw [e2 50 (by omega)]; exact c2, fun j h1 h2 i hi => by rw [e 184 (by decide)]; exact c3 j h1 h2 i hi, fun j hj => by rw [e 185 (by decide)]; exact c4 j hj, by rw [e2 48 (by omega)]; exact c5, by rw [e2 49 (by omega)]; exact c6, by rw [e 186 (by decide)]; exact c7⟩
  rw [← c1 i hi]
  unfold gR
  rw [e 178 (by decide)]
theorem mAd_sp (h : mAd I m adj) (e : spF I J) : mAd J m adj := mAd_of h (e.2.2.2 15 (by unfold stK gsK; omega)) (e.1 161 (by decide) (by decide) (by decide) (by decide) (by decide))
/-- what a step leaves -/
def spP (t : Nat → Int) (n : Nat) (adj : Nat → Nat → Bool) (m p : Nat) (x : PT) (J J' : Nat → Nat → Int) : Prop := (∀ b, plN t n adj m p x = .inl b → J' 156 3 ≠ 0 ∧ mlR J' m x ∧ J' 156 51 = J 156 51 ∧ (if J' 156 55 = -1 then J' 156 4 else J' 156 55) = b) ∧ ∀ p' x', plN t n adj m p x = .inr (p', x') → J' 156 3 = 0 ∧ mlR J' m x' ∧ J' 156 51 = J 156 51 + 1 ∧ J' 156 4 = J 156 4 ∧ J' 156 55 = -1 ∧ TKm J' t n p'
theorem spP_brk (hW : 8 ≤ wdK t n p) {b : Int} (hB : plB t n (tkE t n p) (wdK t n p) = b) (hb : b ≠ -1) (h3 : K 156 3 ≠ 0) (hc : mlR K m x) (h51 : K 156 51 = J 156 51) (h4 : K 156 4 = b) (h55 : K 156 55 = -1) : spP t n adj m p x J K := by
  have h := plN_brk (adj := adj) (m := m) (x := x) hW hB hb
  refine ⟨fun b' e => ?_, fun p' x' e => ?_⟩
  · rw [h] at e
    cases e
    exact ⟨h3, hc, h51, by rw [if_pos h55]; exact h4⟩
  · rw [h] at e; cases e
/-- what is written where something is wrong -/
theorem wr_eq (h3 : K 156 3 = 0) : (if K 156 3 = 0 then (up2 (up2 K 156 3 1) 156 4 (K 156 9)) else K) = up2 (up2 K 156 3 1) 156 4 (K 156 9) := if_pos h3
theorem wr_F : spF K (up2 (up2 K 156 3 1) 156 4 (K 156 9)) := spF_156 (fun a ha => funext (fun k => by rw [up2_a _ ha, up2_a _ ha])) (fun k hk => by unfold stK at hk; rw [up2_k _ (by omega), up2_k _ (by omega)])
theorem wr_ml (h : mlR K m x) {v : Int} : mlR (up2 (up2 K 156 3 1) 156 4 v) m x := mlR_of h (fun a ha => funext (fun k => by rw [up2_a _ ha, up2_a _ ha])) (fun k hk => by rw [up2_k _ (by omega), up2_k _ (by omega)])
/-- the last token of a step, and the deed -/
theorem en_M {q2 s : Nat} {c : Int} (hl0 : LyX12 S) (ht : K 157 = t) (hb : ∀ k, 0 ≤ t k ∧ t k ≤ 255) (hn : n ≤ 700) (hq2 : q2 ≤ n) (hk : TKm K t n q2) (hA : mAd K m adj) (h3 : K 156 3 = 0) (h55 : K 156 55 = -1) (h4 : K 156 4 = J 156 4) (h51 : K 156 51 = J 156 51) (h51b : 0 ≤ J 156 51 ∧ J 156 51 ≤ 1000000) (hc : mlR K m x) (ho : ptO m x) (hev : 0 ≤ x.2.2.2.2.1 ∧ x.2.2.2.2.1 ≤ 1000000) (hW : 8 ≤ wdK t n p) (hQ : plQ t n (tkE t n p) (wdK t n p) = q2) (hB : plB t n (tkE t n p) (wdK t n p) = if tkK t n q2 = 3 then -1 else (tkS t n q2 : Int)) (hs : plU t n (tkE t n p) (wdK t n p) = (s : Int)) (hcc : plV t n (tkE t n p) (wdK t n p) = c) :
    ∃ J', ((K 156 8 = 3) → L_X12_stepOf_90 d 156 (tkS t n p : Int) (wdK t n p) (s : Int) c K S (J', S)) ∧ ((K 156 8 ≠ 3) → L_X12_stepOf_90 d 156 (tkS t n p : Int) (wdK t n p) (s : Int) c (if K 156 3 = 0 then (up2 (up2 K 156 3 1) 156 4 (K 156 9)) else K) S (J', S)) ∧ spF K J' ∧ spP t n adj m p x J J' := by
  have hWi := wdK_in t n p
  have hin := tk_in t hq2
  by_cases k3 : tkK t n q2 = 3
  · have e8 : K 156 8 = 3 := hk.2.2.2.1.trans (msK_3.mpr k3)
    rw [if_pos k3] at hB
    have hN := plN_end (adj := adj) (m := m) (x := x) hW hB
    rw [hQ, hs, hcc] at hN
    obtain ⟨J1, a1, a2, a3⟩ := df_M (d := d + 1) (w := wdK t n p) (s := s) (c := c) hl0 hA hc ho (by omega) hev
    cases hF : plF adj m (wdK t n p) (s : Int) c x with
    | none =>
      rw [hF] at a1 a3 hN
      obtain ⟨X, hX⟩ : ∃ X, X = up2 (up2 J1 156 3 1) 156 55 (tkS t n p : Int) := ⟨_, rfl⟩
      have xa : ∀ a, a ≠ 156 → X a = J1 a := fun a ha => by rw [hX]; exact funext (fun k => by rw [up2_a _ ha, up2_a _ ha])
      have xk : ∀ k, k ≠ 3 → k ≠ 55 → X 156 k = J1 156 k := fun k h1 h2 => by rw [hX, up2_k _ h2, up2_k _ h1]
      refine ⟨X, fun _ => w_X12_stepOf_90 hl0 (fun _ => w_X12_stepOf_98 (J1 := J1) (J2 := J1) (z1 := false) hl0 a1 (fun q => absurd q (by decide)) (e1 := fun q => absurd q (by decide)) (e2 := fun _ => by rw [hX]) (v1 := fun q => absurd q (by decide))) (e1 := fun q => absurd h3 q), fun q => absurd e8 q, spF_trans (spF_df a2) (spF_156 xa (fun k hk' => xk k (fun e => hk' (by unfold stK; omega)) (fun e => hk' (by unfold stK; omega)))), fun b e => ?_, fun p' x' e => ?_⟩
      · rw [hN] at e
        cases e
        have h551 : X 156 55 = (tkS t n p : Int) := by rw [hX, up2_same]
        refine ⟨by rw [hX]; show (1 : Int) ≠ 0; decide, mlR_of a3 xa (fun k hk' => xk k (by omega) (by omega)), by rw [xk 51 (by decide) (by decide), a2.2.2.2 51 (by decide) (by decide) (by decide)]; exact h51, by rw [h551, if_neg (by omega)]⟩
      · rw [hN] at e; cases e
    | some x1 =>
      rw [hF] at a1 a3 hN
      obtain ⟨Y, hY⟩ : ∃ Y, Y = up2 J1 156 51 (J1 156 51 + 1) := ⟨_, rfl⟩
      have j51 : J1 156 51 = J 156 51 := by rw [a2.2.2.2 51 (by decide) (by decide) (by decide)]; exact h51
      have ya : ∀ a, a ≠ 156 → Y a = J1 a := fun a ha => by rw [hY]; exact funext (fun k => up2_a _ ha)
      have yk : ∀ k, k ≠ 51 → Y 156 k = J1 156 k := fun k h1 => by rw [hY, up2_k _ h1]
      have yK : ∀ k, k ≠ 51 → k ≠ 48 → k ≠ 49 → k ≠ 50 → Y 156 k = K 156 k := fun k h1 h2 h3 h4 => by rw [yk k h1]; exact a2.2.2.2 k h2 h3 h4
      obtain ⟨b1, b2, b3, b4⟩ := go_M (d := d + 4) (J := Y) (t := t) (n := n) (q := tkE t n q2) hl0 (by rw [ya 157 (by decide), a2.1 157 (by decide) (by decide) (by decide) (by decide) (by decide)]; exact ht) hb (by rw [yK 6 (by decide) (by decide) (by decide) (by decide)]; exact hk.1) (by rw [yK 7 (by decide) (by decide) (by decide) (by decide)]; exact hk.2.1) hn hin.2.2.2
      refine ⟨gsI Y, fun _ => w_X12_stepOf_90 hl0 (fun _ => w_X12_stepOf_98 (J1 := J1) (J2 := gsI Y) (z1 := true) hl0 a1 (fun _ => by rw [← hY]; exact b1) (e1 := fun _ => rfl) (e2 := fun q => absurd rfl q) (v1 := fun _ => by rw [j51]; omega)) (e1 := fun q => absurd h3 q), fun q => absurd e8 q, spF_trans (spF_df a2) (spF_trans (spF_156 ya (fun k hk' => yk k (fun e => hk' (by unfold stK; omega)))) (spF_156 b3 (fun k hk' => b4 k (fun e => hk' (by unfold stK; exact Or.inr (Or.inr (Or.inl e))))))), fun b e => ?_, fun p' x' e => ?_⟩
      · rw [hN] at e; cases e
      · rw [hN] at e
        cases e
        have gk : ∀ k, ¬gsK k → k ≠ 51 → k ≠ 48 → k ≠ 49 → k ≠ 50 → gsI Y 156 k = K 156 k := fun k h0 h1 h2 h3 h4 => by rw [b4 k h0]; exact yK k h1 h2 h3 h4
        refine ⟨by rw [gk 3 (by unfold gsK; omega) (by decide) (by decide) (by decide) (by decide)]; exact h3, mlR_of a3 (fun a ha => by rw [b3 a ha]; exact ya a ha) (fun k hk' => by rw [b4 k (by unfold gsK; omega)]; exact yk k (by omega)), by rw [b4 51 (by unfold gsK; omega), hY, up2_same, j51], by rw [gk 4 (by unfold gsK; omega) (by decide) (by decide) (by decide) (by decide)]; exact h4, by rw [gk 55 (by unfold gsK; omega) (by decide) (by decide) (by decide) (by decide)]; exact h55, b2⟩
  · have e8 : K 156 8 ≠ 3 := fun q => k3 (msK_3.mp (hk.2.2.2.1.symm.trans q))
    rw [if_neg k3] at hB
    have hbad : ¬((up2 (up2 K 156 3 1) 156 4 (K 156 9)) 156 3 = 0) := by show ¬((1 : Int) = 0); decide
    refine ⟨up2 (up2 K 156 3 1) 156 4 (K 156 9), fun q => absurd q e8, fun _ => by rw [wr_eq h3]; exact w_X12_stepOf_90 hl0 (fun q => absurd q hbad) (e1 := fun _ => rfl), wr_F, spP_brk hW hB (by omega) hbad (wr_ml hc) (by rw [up2_k _ (by decide), up2_k _ (by decide)]; exact h51) (by rw [up2_same]; exact hk.2.2.1) (by rw [up2_k _ (by decide), up2_k _ (by decide)]; exact h55)⟩
/-- a step that broke off at a number -/
theorem eb_M {w s c v : Int} (hl0 : LyX12 S) : L_X12_stepOf_90 d 156 v w s c (up2 (up2 K 156 3 1) 156 4 (tkS t n p : Int)) S (up2 (up2 K 156 3 1) 156 4 (tkS t n p : Int), S) :=
  w_X12_stepOf_90 hl0 (fun q => absurd q (by show ¬((1 : Int) = 0); decide)) (e1 := fun _ => rfl)
end
end
