/-! ===== a piece is read: the reference's ===== -/
noncomputable section
section
variable {d : Nat} {I J K X Y : Nat → Nat → Int} {S : PS} {U A n p q H s : Nat} {t M B : Nat → Int}
/-- what reading a piece leaves alone in the reference -/
def pwF (p : Nat) (X J : Nat → Nat → Int) : Prop := (∀ a, a ≠ 156 → a ≠ 162 → a ≠ 166 → J a = X a) ∧ (∀ k, ¬(k = 3 ∨ k = 4 ∨ gsK k ∨ k = 16) → J 156 k = X 156 k) ∧ (∀ k, ¬(20 * p ≤ k ∧ k < 20 * p + 20) → J 162 k = X 162 k) ∧ (∀ k, ¬(15 * p ≤ k ∧ k < 15 * p + 15) → J 166 k = X 166 k) ∧ erR X J
theorem pwF_refl : pwF p X X := ⟨fun _ _ _ _ => rfl, fun _ _ => rfl, fun _ _ => rfl, fun _ _ => rfl, erR_eq rfl rfl⟩
theorem pwF_trans (h : pwF p X J) (g : pwF p J K) : pwF p X K := ⟨fun a h1 h2 h3 => by rw [g.1 a h1 h2 h3]; exact h.1 a h1 h2 h3, fun k hk => by rw [g.2.1 k hk]; exact h.2.1 k hk, fun k hk => by rw [g.2.2.1 k hk]; exact h.2.2.1 k hk, fun k hk => by rw [g.2.2.2.1 k hk]; exact h.2.2.2.1 k hk, erR_trans h.2.2.2.2 g.2.2.2.2⟩
theorem pwF_bad {k v : Int} (hk : k ≠ 0 := by first | decide | assumption | omega) : pwF p X (up2 (up2 X 156 3 k) 156 4 v) := ⟨fun a ha _ _ => funext (fun j => by rw [up2_a _ ha, up2_a _ ha]), fun j hj => by rw [up2_k _ (by omega), up2_k _ (by omega)], fun j _ => by rw [up2_a _ (by decide), up2_a _ (by decide)], fun j _ => by rw [up2_a _ (by decide), up2_a _ (by decide)], erR_bad hk⟩
theorem pwF_go (h4 : ∀ a, a ≠ 156 → J a = X a) (h5 : ∀ k, ¬gsK k → J 156 k = X 156 k) : pwF p X J := ⟨fun a ha _ _ => h4 a ha, fun k hk => h5 k (fun w => hk (Or.inr (Or.inr (Or.inl w)))), fun k _ => by rw [h4 162 (by decide)], fun k _ => by rw [h4 166 (by decide)], erR_eq (h5 3 (by unfold gsK; omega)) (h5 4 (by unfold gsK; omega))⟩
theorem pwF_162 {j : Nat} {v : Int} (hj : 20 * p ≤ j ∧ j < 20 * p + 20) : pwF p X (up2 X 162 j v) := ⟨fun a _ h2 _ => funext (fun k => up2_a _ h2), fun k _ => up2_a _ (by decide), fun k hk => up2_k _ (fun e => hk (by omega)), fun k _ => up2_a _ (by decide), erR_eq (up2_a _ (by decide)) (up2_a _ (by decide))⟩
theorem pwF_rd (h : pwF p X J) : rdF X J := ⟨fun a h1 h2 _ _ h6 => h.1 a h1 h2 h6, fun k hk => h.2.1 k (fun w => hk (w.elim Or.inl (fun w => w.elim (fun w => Or.inr (Or.inl w)) (fun w => w.elim (fun w => Or.inr (Or.inr (Or.inl w))) (fun w => Or.inr (Or.inr (Or.inr (Or.inl w)))))))), h.2.2.2.2⟩
/-- what reading a piece leaves in the reference -/
def pwQ (t : Nat → Int) (n p H : Nat) (P : (Int × Nat) ⊕ (Nat × Nat × (Nat → Int))) (J : Nat → Nat → Int) : Prop := (∀ k q', P = .inl (k, q') → J 156 3 = k ∧ J 156 4 = (tkS t n q' : Int) ∧ k ≠ 0) ∧ ∀ s q' B, P = .inr (s, q', B) → J 156 3 = 0 ∧ J 156 16 = (p : Int) + 1 ∧ (mDt (J 162) p H s B ∧ J 162 (20 * p + 9) = rsz H s B ∧ J 162 (20 * p + 10) = 0 ∧ ∀ v, v < 15 → J 166 (15 * p + v) = lkL (fun _ => 0) (epL H s B (rsz H s B)) v) ∧ TKm J t n q' ∧ q' ≤ n ∧ tkK t n q' = 3 ∧ s ≤ H ∧ (∀ k, k < s → 5 ≤ B k ∧ B k ≤ 9) ∧ rsz H s B ≤ 7
theorem pwQ_bad {P : (Int × Nat) ⊕ (Nat × Nat × (Nat → Int))} {k : Int} {q' : Nat} (hP : P = .inl (k, q')) (h3 : J 156 3 = k) (h4 : J 156 4 = (tkS t n q' : Int)) (hk : k ≠ 0) : pwQ t n p H P J := by
  refine ⟨fun k' q'' e => ?_, fun s q'' B e => ?_⟩
  · rw [hP] at e; cases e; exact ⟨h3, h4, hk⟩
  · rw [hP] at e; cases e
theorem pm_139 (hl0 : LyX12 S) (h3 : ¬X 156 3 = 0) : L_X12_readsPiece_139 d 156 (p : Int) X S (X, S) := w_X12_readsPiece_139 hl0 (fun w => absurd w h3) (e1 := fun _ => rfl)
theorem pm_46 (hl0 : LyX12 S) (h3 : ¬X 156 3 = 0) : L_X12_readsPiece_46 d 156 (p : Int) X S (X, S) := w_X12_readsPiece_46 (J1 := X) hl0 (fun _ => pm_139 hl0 h3) (fun w => absurd w h3) (fun w => absurd w h3) (fun w => absurd w h3) (fun w => absurd w h3) (v1 := fun w => absurd w h3) (v2 := fun w => absurd w h3) (v3 := fun w => absurd w h3) (v4 := fun w => absurd w h3)
theorem pm_186 (hl0 : LyX12 S) (h3 : ¬X 156 3 = 0) : L_X12_readsPiece_186 d 156 (p : Int) X S (X, S) := w_X12_readsPiece_186 hl0 (fun w => absurd w h3) (e1 := fun _ => rfl)
theorem rm_L (hl0 : LyX12 S) (hb : ∀ k, 0 ≤ t k ∧ t k ≤ 255) (hn : n ≤ 700) (hp : p < 4) (hH : 5 ≤ H ∧ H ≤ 7) : ∀ (f i q : Nat) (B : Nat → Int) (X : Nat → Nat → Int), f + i = 8 → i ≤ H → q ≤ n → X 157 = t → TKm X t n q → X 156 3 = 0 → X 156 16 = (p : Int) → mDt (X 162) p H i B → X 162 (20 * p + 10) = 0 → (∀ k, k < i → 5 ≤ B k ∧ B k ≤ 9) → ∃ J, L_X12_readsPiece_46 d 156 (p : Int) X S (J, S) ∧ pwF p X J ∧ pwQ t n p H (pcL t n H f i q B) J := by
  intro f
  induction f with
  | zero => intro i q B X hf hi; exact absurd hf (by omega)
  | succ f ih =>
    intro i q B X hf hi hq ht hk h3 h16 hD h10 hB
    have hin := tk_in t hq
    have i0 : (20 * (p : Int)).toNat = 20 * p := by omega
    have i1 : ((20 * (p : Int)) + 1).toNat = 20 * p + 1 := by omega
    have i9 : ((20 * (p : Int)) + 9).toNat = 20 * p + 9 := by omega
    have i2 : (((20 * (p : Int)) + 2) + (i : Int)).toNat = 20 * p + 2 + i := by omega
    have e9 : X 156 9 = (tkS t n q : Int) := hk.2.2.1
    have bad : ∀ (Y : Nat → Nat → Int) (k v : Int), k ≠ 0 → ¬((up2 (up2 Y 156 3 k) 156 4 v) 156 3 = 0) := fun Y k v hk' => hk'
    have u : pcL t n H (f + 1) i q B = if tkK t n q = 2 then (if nfK t n q 5 9 ≠ 0 ∨ H ≤ i then .inl (2, q) else pcL t n H f (i + 1) (tkE t n q) (up1 B i (gsV t n q))) else if tkK t n q = 3 then (if rsz H i B ≤ 7 then .inr (i, q, B) else .inl (2, q)) else .inl (1, q) := rfl
    by_cases k2 : tkK t n q = 2
    · have e8 : X 156 8 = 2 := hk.2.2.2.1.trans (msK_2.mpr k2)
      rw [if_pos k2] at u
      by_cases hiH : H ≤ i
      · rw [if_pos (Or.inr hiH)] at u
        have w1 := wr_y (d := d + 4) (k := 2) hl0 h3
        rw [e9] at w1
        have n0 := nu_0 (d := d + 1) (J := up2 (up2 X 156 3 2) 156 4 (tkS t n q : Int)) (lo := 5) (hi := 9) hl0 (bad X 2 _ (by decide))
        exact ⟨up2 (up2 X 156 3 2) 156 4 (tkS t n q : Int), w_X12_readsPiece_46 (J1 := up2 (up2 X 156 3 2) 156 4 (tkS t n q : Int)) hl0 (fun w => absurd h3 w) (fun _ w => absurd e8 w) (fun _ _ w => absurd (by rw [i0, i1, hD.1, hD.2.1]; omega) w) (fun _ _ _ => w1) (fun _ _ _ => w_X12_readsPiece_91 (J1 := up2 (up2 X 156 3 2) 156 4 (tkS t n q : Int)) hl0 n0 (fun w => absurd w (bad X 2 _ (by decide))) (e1 := fun _ => rfl) (v1 := fun _ => by omega) (v2 := fun _ => by omega) (v3 := fun w => absurd w (bad X 2 _ (by decide))) (v4 := fun w => absurd w (bad X 2 _ (by decide))) (v5 := fun _ => by omega) (v6 := fun _ => by omega) (v7 := fun w => absurd w (bad X 2 _ (by decide)))), pwF_bad, pwQ_bad u rfl (up2_same _ _ _ _) (by decide)⟩
      · have goto : ∀ J, L_X12_readsPiece_91 d 156 (p : Int) (i : Int) X S (J, S) → L_X12_readsPiece_46 d 156 (p : Int) X S (J, S) := fun J kk => w_X12_readsPiece_46 (J1 := X) hl0 (fun w => absurd h3 w) (fun _ w => absurd e8 w) (fun _ _ _ => by rw [i1, hD.2.1]; exact kk) (fun _ _ w => absurd (show (i : Int) = (H : Int) by rw [i0, i1, hD.1, hD.2.1] at w; exact w) (by omega)) (fun _ _ w => absurd (show (i : Int) = (H : Int) by rw [i0, i1, hD.1, hD.2.1] at w; exact w) (by omega))
        by_cases c : nfK t n q 5 9 = 0
        · rw [if_neg (fun w => w.elim (fun w => w c) hiH)] at u
          obtain ⟨_, c2, c3, c4, c5⟩ := nf_0 c
          obtain ⟨g1, g2, g3, g4, g5⟩ := nu_y (d := d + 1) hl0 ht hb hk hn hq h3 c
          have Y3 : gsI X 156 3 = 0 := by rw [g5 3 (by unfold gsK; omega)]; exact h3
          have o1 : ∀ w, (up2 (gsI X) 162 (20 * p + 2 + i) w) 162 (20 * p + 1) = (i : Int) := fun w => by rw [up2_k _ (by omega), g4 162 (by decide)]; exact hD.2.1
          generalize hY : up2 (up2 (gsI X) 162 (20 * p + 2 + i) (gsV t n q)) 162 (20 * p + 1) ((i : Int) + 1) = Y
          have y0 : ∀ a, a ≠ 162 → Y a = gsI X a := fun a h => by rw [← hY]; funext k; rw [up2_a _ h, up2_a _ h]
          have yk : ∀ k, k ≠ 20 * p + 2 + i → k ≠ 20 * p + 1 → Y 162 k = X 162 k := fun k h1 h2 => by rw [← hY, up2_k _ h2, up2_k _ h1, g4 162 (by decide)]
          have yD : mDt (Y 162) p H (i + 1) (up1 B i (gsV t n q)) := by
            refine ⟨by rw [yk _ (by omega) (by omega)]; exact hD.1, by rw [← hY, up2_same]; rfl, fun k hk => ?_⟩
            by_cases ki : k = i
            · rw [ki, up1_same, ← hY, up2_k _ (by omega), up2_same]
            · rw [up1_o _ ki, yk _ (by omega) (by omega)]; exact hD.2.2 k (by omega)
          obtain ⟨J, q1, q2, q3⟩ := ih (i + 1) (tkE t n q) (up1 B i (gsV t n q)) Y (by omega) (by omega) hin.2.2.2 (by rw [y0 157 (by decide), g4 157 (by decide)]; exact ht) (by unfold TKm; rw [y0 156 (by decide)]; exact g2) (by rw [y0 156 (by decide)]; exact Y3) (by rw [y0 156 (by decide), g5 16 (by unfold gsK; omega)]; exact h16) yD (by rw [yk _ (by omega) (by omega)]; exact h10) (fun k hk => by
            by_cases ki : k = i
            · rw [ki, up1_same]; exact ⟨c3, c4⟩
            · rw [up1_o _ ki]; exact hB k (by omega))
          rw [← u] at q3
          refine ⟨J, goto _ (w_X12_readsPiece_91 (J1 := gsI X) hl0 g1 (fun _ => ?_) (e1 := fun w => absurd Y3 w) (v1 := fun _ => by omega) (v2 := fun _ => by omega) (v3 := fun _ => by omega) (v4 := fun _ => by omega) (v5 := fun _ => by omega) (v6 := fun _ => by omega) (v7 := fun _ => by rw [i1, i2, o1]; omega)), pwF_trans (pwF_go g4 g5) (pwF_trans ?_ q2), q3⟩
          · rw [i1, i2, o1, hY]; exact q1
          · rw [← hY]
            exact pwF_trans (pwF_162 (by omega)) (pwF_162 (by omega))
        · rw [if_pos (Or.inl c)] at u
          have h2 := (nf_kind (lo := 5) (hi := 9) k2).resolve_left c
          have c1 := nu_n (d := d + 1) (lo := 5) (hi := 9) hl0 hk h3 c
          rw [h2] at c1
          exact ⟨up2 (up2 X 156 3 2) 156 4 (tkS t n q : Int), goto _ (w_X12_readsPiece_91 (J1 := up2 (up2 X 156 3 2) 156 4 (tkS t n q : Int)) hl0 c1 (fun w => absurd w (bad X 2 _ (by decide))) (e1 := fun _ => rfl) (v1 := fun _ => by omega) (v2 := fun _ => by omega) (v3 := fun _ => by omega) (v4 := fun _ => by omega) (v5 := fun _ => by omega) (v6 := fun _ => by omega) (v7 := fun w => absurd w (bad X 2 _ (by decide)))), pwF_bad, pwQ_bad u rfl (up2_same _ _ _ _) (by decide)⟩
    · have e8 : X 156 8 ≠ 2 := fun w => k2 (msK_2.mp (hk.2.2.2.1.symm.trans w))
      rw [if_neg k2] at u
      have goto : ∀ J, L_X12_readsPiece_147 d 156 (p : Int) X S (J, S) → L_X12_readsPiece_46 d 156 (p : Int) X S (J, S) := fun J kk => w_X12_readsPiece_46 (J1 := X) hl0 (fun w => absurd h3 w) (fun _ _ => w_X12_readsPiece_139 hl0 (fun _ => kk) (e1 := fun w => absurd h3 w)) (fun _ w => absurd w e8) (fun _ w => absurd w e8) (fun _ w => absurd w e8) (v1 := fun _ w => absurd w e8) (v2 := fun _ w => absurd w e8) (v3 := fun _ w => absurd w e8) (v4 := fun _ w => absurd w e8)
      have hm := mPc_P hD hH hi hB
      have er := rgM_P (I := X) (a := 162) hD
      by_cases k3 : tkK t n q = 3
      · have x3 : X 156 8 = 3 := hk.2.2.2.1.trans (msK_3.mpr k3)
        rw [if_pos k3] at u
        by_cases hr : rsz H i B ≤ 7
        · rw [if_pos hr] at u
          have r5 := rsz_5 (s := i) (A := B) hH hi (fun k hk => (hB k hk).1)
          generalize hY : up2 X 162 (20 * p + 9) (rsz H i B) = Y
          have y0 : ∀ a, a ≠ 162 → Y a = X a := fun a h => by rw [← hY]; funext k; rw [up2_a _ h]
          have yk : ∀ k, k ≠ 20 * p + 9 → Y 162 k = X 162 k := fun k h => by rw [← hY, up2_k _ h]
          have y9 : Y 162 (20 * p + 9) = rsz H i B := by rw [← hY, up2_same]
          have yD : mDt (Y 162) p H i B := ⟨by rw [yk _ (by omega)]; exact hD.1, by rw [yk _ (by omega)]; exact hD.2.1, fun k hk => by rw [yk _ (by omega)]; exact hD.2.2 k hk⟩
          have ce := c_X12_laysEdges (d := d + 3) (I := Y) (S := S) (x1 := (p : Int)) hl0 (by omega) (mPc_P yD hH hi hB) (by rw [i9, y9]; omega)
          have ew : edW Y 162 (p : Int) = epL H i B (rsz H i B) := edW_P (I := Y) yD y9 ⟨hH.1, hi⟩ (fun c => by rw [c]; unfold rsz; rw [if_pos rfl])
          have eI := epL_I (H := H) (s := i) (A := B) (r := rsz H i B) (by omega) (by omega)
          have eo : (15 * (p : Int)) = ((15 * p : Nat) : Int) := by omega
          unfold leI at ce
          rw [ew, eo, Int.toNat_natCast] at ce
          generalize hZ : up1 Y 166 (lkOL (upTo (Y 166) (fun _ => 0) (15 * p) 15) ((15 * p : Nat) : Int) (epL H i B (rsz H i B))) = Z at ce
          have z0 : ∀ a, a ≠ 166 → Z a = Y a := fun a h => by rw [← hZ]; exact up1_o _ h
          have z16 : Z 156 16 = (p : Int) := by rw [z0 156 (by decide), y0 156 (by decide)]; exact h16
          have zF : pwF p X Z := by
            refine ⟨fun a h1 h2 h4 => by rw [z0 a h4, y0 a h2], fun k _ => by rw [z0 156 (by decide), y0 156 (by decide)], fun k hk => by rw [z0 162 (by decide), yk _ (by omega)], fun k hk => ?_, erR_eq (by rw [z0 156 (by decide), y0 156 (by decide)]) (by rw [z0 156 (by decide), y0 156 (by decide)])⟩
            rw [← hZ, up1_same, lkOL_o eI hk, upTo_out hk, y0 166 (by decide)]
          refine ⟨up2 Z 156 16 ((p : Int) + 1), goto _ (w_X12_readsPiece_147 (J1 := X) hl0 (fun w => absurd x3 w) (fun _ _ => w_X12_readsPiece_173 (J1 := X) hl0 (fun _ => w_X12_readsPiece_186 hl0 (fun _ => w_X12_readsPiece_194 (J1 := Z) hl0 (by rw [i9, er, hY]; exact ce) (e1 := by rw [z16]) (v1 := by omega) (v2 := by omega) (v3 := by omega) (v4 := hm) (v5 := by omega) (v6 := by rw [z16]; omega)) (e1 := fun w => absurd h3 w)) (fun w => absurd x3 w) (fun w => absurd x3 w)) (fun _ w => absurd w (by rw [er]; omega)) (fun _ w => absurd w (by rw [er]; omega)) (v1 := fun _ => by omega) (v2 := fun _ => hm)), pwF_trans zF ⟨fun a h1 _ _ => funext (fun k => up2_a _ h1), fun k hk => up2_k _ (fun e => hk (Or.inr (Or.inr (Or.inr e)))), fun k _ => up2_a _ (by decide), fun k _ => up2_a _ (by decide), erR_eq rfl rfl⟩, ?_⟩
          have w0 : ∀ a, a ≠ 156 → up2 Z 156 16 ((p : Int) + 1) a = Z a := fun a h => funext (fun k => up2_a _ h)
          have w1 : ∀ k, k ≠ 16 → up2 Z 156 16 ((p : Int) + 1) 156 k = X 156 k := fun k h => by rw [up2_k _ h, z0 156 (by decide), y0 156 (by decide)]
          rw [u]
          refine ⟨fun k q' e => (by cases e), fun s q' B' e => ?_⟩
          cases e
          refine ⟨by rw [w1 3 (by decide)]; exact h3, up2_same _ _ _ _, ⟨?_, ?_, ?_, fun v hv => ?_⟩, ?_, hq, k3, hi, hB, hr⟩
          · rw [w0 162 (by decide), z0 162 (by decide)]; exact yD
          · rw [w0 162 (by decide), z0 162 (by decide)]; exact y9
          · rw [w0 162 (by decide), z0 162 (by decide), yk _ (by omega)]; exact h10
          · rw [w0 166 (by decide), ← hZ, up1_same, lkOL_P eI (g := fun v => upTo (Y 166) (fun _ => 0) (15 * p) 15 (15 * p + v)) (fun v => rfl)]
            exact lkL_cg (upTo_in (by omega))
          · obtain ⟨k1, k2, k3', k4, k5, k6, k7⟩ := hk
            exact ⟨by rw [w1 6 (by decide)]; exact k1, by rw [w1 7 (by decide)]; exact k2, by rw [w1 9 (by decide)]; exact k3', by rw [w1 8 (by decide)]; exact k4, by rw [w1 10 (by decide)]; exact k5, by rw [w1 11 (by decide)]; exact k6, by rw [w1 12 (by decide)]; exact k7⟩
        · rw [if_neg hr] at u
          have w1 := wr_y (d := d + 4) (k := 2) hl0 h3
          rw [e9] at w1
          have b8 : (up2 (up2 X 156 3 2) 156 4 (tkS t n q : Int)) 156 8 = 3 := x3
          exact ⟨up2 (up2 X 156 3 2) 156 4 (tkS t n q : Int), goto _ (w_X12_readsPiece_147 (J1 := up2 (up2 X 156 3 2) 156 4 (tkS t n q : Int)) hl0 (fun w => absurd x3 w) (fun _ w => absurd w (by rw [er]; omega)) (fun _ _ => w1) (fun _ _ => w_X12_readsPiece_173 (J1 := X) hl0 (fun _ => pm_186 hl0 (bad X 2 _ (by decide))) (fun w => absurd b8 w) (fun w => absurd b8 w)) (v1 := fun _ => by omega) (v2 := fun _ => hm)), pwF_bad, pwQ_bad u rfl (up2_same _ _ _ _) (by decide)⟩
      · have x3 : X 156 8 ≠ 3 := fun w => k3 (msK_3.mp (hk.2.2.2.1.symm.trans w))
        rw [if_neg k3] at u
        have w1 := wr_y (d := d + 4) (k := 1) hl0 h3
        rw [e9] at w1
        exact ⟨up2 (up2 X 156 3 1) 156 4 (tkS t n q : Int), goto _ (w_X12_readsPiece_147 (J1 := X) hl0 (fun _ => w_X12_readsPiece_173 (J1 := up2 (up2 X 156 3 1) 156 4 (tkS t n q : Int)) hl0 (fun w => absurd w x3) (fun _ => w1) (fun _ => pm_186 hl0 (bad X 1 _ (by decide)))) (fun w => absurd w x3) (fun w => absurd w x3) (fun w => absurd w x3) (v1 := fun _ => by omega) (v2 := fun _ => hm)), pwF_bad, pwQ_bad u rfl (up2_same _ _ _ _) (by decide)⟩
/-- a piece is read, from the token behind its word -/
theorem rp_M (hl0 : LyX12 S) (hb : ∀ k, 0 ≤ t k ∧ t k ≤ 255) (hn : n ≤ 700) (hp : p < 4) (hq : q ≤ n) (ht : X 157 = t) (hk : TKm X t n q) (h3 : X 156 3 = 0) (h16 : X 156 16 = (p : Int)) : ∃ J, Ca (d + 5) mX12_readsPiece [vR (some (22, 0, 156))] (X, S) (.inl none) (J, S) ∧ pwF p X J ∧ pwQ t n p (gsV t n q).toNat (pcP t n q) J := by
  have hin := tk_in t hq
  have i0 : (20 * (p : Int)).toNat = 20 * p := by omega
  have i1 : ((20 * (p : Int)) + 1).toNat = 20 * p + 1 := by omega
  have i10 : ((20 * (p : Int)) + 10).toNat = 20 * p + 10 := by omega
  have zz : ∀ (Y : Nat → Nat → Int) (z : Int), pwF p Y (up2 (up2 (up2 Y 162 (20 * p) z) 162 (20 * p + 1) 0) 162 (20 * p + 10) 0) := fun Y z => pwF_trans (pwF_162 (by omega)) (pwF_trans (pwF_162 (by omega)) (pwF_162 (by omega)))
  have zo : ∀ (Y : Nat → Nat → Int) (z : Int) a, a ≠ 162 → (up2 (up2 (up2 Y 162 (20 * p) z) 162 (20 * p + 1) 0) 162 (20 * p + 10) 0) a = Y a := fun Y z a h => by funext k; rw [up2_a _ h, up2_a _ h, up2_a _ h]
  unfold pcP
  by_cases c : nfK t n q 5 7 = 0
  · rw [if_neg (fun w => w c)]
    obtain ⟨c1, c2, c3, c4, c5⟩ := nf_0 c
    obtain ⟨g1, g2, g3, g4, g5⟩ := nu_y (d := d + 1) hl0 ht hb hk hn hq h3 c
    have hZ := zz (gsI X) (gsV t n q)
    have hZo := zo (gsI X) (gsV t n q)
    have z1 : (up2 (up2 (up2 (gsI X) 162 (20 * p) (gsV t n q)) 162 (20 * p + 1) 0) 162 (20 * p + 10) 0) 162 (20 * p) = gsV t n q := by rw [up2_k _ (by omega), up2_k _ (by omega), up2_same]
    have z2 : (up2 (up2 (up2 (gsI X) 162 (20 * p) (gsV t n q)) 162 (20 * p + 1) 0) 162 (20 * p + 10) 0) 162 (20 * p + 1) = 0 := by rw [up2_k _ (by omega), up2_same]
    have z3 : (up2 (up2 (up2 (gsI X) 162 (20 * p) (gsV t n q)) 162 (20 * p + 1) 0) 162 (20 * p + 10) 0) 162 (20 * p + 10) = 0 := up2_same _ _ _ _
    generalize hY : up2 (up2 (up2 (gsI X) 162 (20 * p) (gsV t n q)) 162 (20 * p + 1) 0) 162 (20 * p + 10) 0 = Y at *
    obtain ⟨J, q1, q2, q3⟩ := rm_L (d := d) (t := t) (H := (gsV t n q).toNat) hl0 hb hn hp (by omega) 8 0 (tkE t n q) (fun _ => 0) Y rfl (by omega) hin.2.2.2 (by rw [hZo 157 (by decide), g4 157 (by decide)]; exact ht) (by unfold TKm; rw [hZo 156 (by decide)]; exact g2) (by rw [hZo 156 (by decide), g5 3 (by unfold gsK; omega)]; exact h3) (by rw [hZo 156 (by decide), g5 16 (by unfold gsK; omega)]; exact h16) ⟨by rw [z1]; omega, z2, fun k hk => absurd hk (by omega)⟩ z3 (fun k hk => absurd hk (by omega))
    exact ⟨J, w_X12_readsPiece_0 (J1 := gsI X) hl0 g1 (by rw [h16, i0, i1, i10, hY]; exact q1) (v1 := by omega) (v2 := by omega) (v3 := by omega) (v4 := by omega) (v5 := by omega) (v6 := by omega), pwF_trans (pwF_go g4 g5) (pwF_trans hZ q2), q3⟩
  · rw [if_pos c]
    have g1 := nu_n (d := d + 1) (lo := 5) (hi := 7) hl0 hk h3 c
    have hZ := zz (up2 (up2 X 156 3 (nfK t n q 5 7)) 156 4 (tkS t n q : Int)) (gsV t n q)
    have hZo := zo (up2 (up2 X 156 3 (nfK t n q 5 7)) 156 4 (tkS t n q : Int)) (gsV t n q)
    generalize hY : up2 (up2 (up2 (up2 (up2 X 156 3 (nfK t n q 5 7)) 156 4 (tkS t n q : Int)) 162 (20 * p) (gsV t n q)) 162 (20 * p + 1) 0) 162 (20 * p + 10) 0 = Y at *
    have Y3 : Y 156 3 = nfK t n q 5 7 := by rw [hZo 156 (by decide)]; rfl
    have Y4 : Y 156 4 = (tkS t n q : Int) := by rw [hZo 156 (by decide)]; exact up2_same _ _ _ _
    exact ⟨Y, w_X12_readsPiece_0 hl0 g1 (by rw [h16, i0, i1, i10, hY]; exact pm_46 hl0 (by rw [Y3]; exact c)) (v1 := by omega) (v2 := by omega) (v3 := by omega) (v4 := by omega) (v5 := by omega) (v6 := by omega), pwF_trans pwF_bad hZ, pwQ_bad rfl Y3 Y4 c⟩
end
end
