/-! ===== a piece is read: the class's ===== -/
noncomputable section
/-- spokes that are read: what is wrong and where, or how many, the token of the sign, and they -/
def pcL (t : Nat → Int) (n H : Nat) : Nat → Nat → Nat → (Nat → Int) → (Int × Nat) ⊕ (Nat × Nat × (Nat → Int))
  | 0, _, q, _ => .inl (2, q)
  | f + 1, i, q, A => if tkK t n q = 2 then (if nfK t n q 5 9 ≠ 0 ∨ H ≤ i then .inl (2, q) else pcL t n H f (i + 1) (tkE t n q) (up1 A i (gsV t n q))) else if tkK t n q = 3 then (if rsz H i A ≤ 7 then .inr (i, q, A) else .inl (2, q)) else .inl (1, q)
/-- a piece, from the token behind its word -/
def pcP (t : Nat → Int) (n q : Nat) : (Int × Nat) ⊕ (Nat × Nat × (Nat → Int)) := if nfK t n q 5 7 ≠ 0 then .inl (nfK t n q 5 7, q) else pcL t n (gsV t n q).toNat 8 0 (tkE t n q) (fun _ => 0)
section
variable {d : Nat} {I J K X Y : Nat → Nat → Int} {S : PS} {U A n p q H s : Nat} {t M B : Nat → Int}
theorem mPc_P (h : mDt M p H s B) (hH : 5 ≤ H ∧ H ≤ 7) (hs : s ≤ H) (hB : ∀ k, k < s → 5 ≤ B k ∧ B k ≤ 9) : mPc M (p : Int) := by
  unfold mPc
  have i0 : (20 * (p : Int)).toNat = 20 * p := by omega
  have i1 : ((20 * (p : Int)) + 1).toNat = 20 * p + 1 := by omega
  rw [i0, i1, h.1, h.2.1]
  refine ⟨by omega, by omega, fun k h0 h1 => ?_⟩
  rw [show (((20 * (p : Int)) + 2) + k).toNat = 20 * p + 2 + k.toNat by omega, h.2.2 k.toNat (by omega)]
  exact hB _ (by omega)
theorem cPc_P (h : cDt X A H s B) (hH : 5 ≤ H ∧ H ≤ 7) (hs : s ≤ H) (hB : ∀ k, k < s → 5 ≤ B k ∧ B k ≤ 9) : cPc X A := by
  unfold cPc
  rw [h.1, h.2.1]
  refine ⟨by omega, by omega, fun k h0 h1 => ?_⟩
  rw [h.2.2 k.toNat (by omega)]
  exact hB _ (by omega)
/-- the class's piece as it is built -/
def pcD (J : Nat → Nat → Int) (A H s : Nat) (B : Nat → Int) : Prop := cDt J A H s B ∧ J A 3 = rsz H s B ∧ J A 4 = rsz H s B + 1 + (s : Int) ∧ J A 6 = 0 ∧ J A 9 = 0 ∧ (∀ v, v < 15 → J (A + 2) v = lkL (fun _ => 0) (epL H s B (rsz H s B)) v) ∧ ∀ v, v < 15 → J (A + 3) v = 0
theorem bu_P (h : cDt X A H s B) (hH : 5 ≤ H ∧ H ≤ 7) (hs : s ≤ H) (h6 : X A 6 = 0) (h9 : X A 9 = 0) (hr : rsz H s B ≤ 7) : pcD (buI X A) A H s B ∧ ∀ a, a ≠ A → a ≠ A + 2 → a ≠ A + 3 → buI X A a = X a := by
  have hp := prC_P h
  unfold buI
  rw [if_pos (by rw [hp]; exact hr)]
  have k0 : ∀ j, j ≠ 3 → j ≠ 4 → buK X A A j = X A j := fun j h3 h4 => by
    unfold buK
    rw [up1_o _ (show A ≠ A + 3 by omega), up1_o _ (show A ≠ A + 2 by omega), up2_k _ h4, up2_k _ h3]
  have k3 : buK X A A 3 = rsz H s B := by
    unfold buK
    rw [up1_o _ (show A ≠ A + 3 by omega), up1_o _ (show A ≠ A + 2 by omega), up2_k _ (by decide), up2_same, hp]
  have k4 : buK X A A 4 = rsz H s B + 1 + (s : Int) := by
    unfold buK
    rw [up1_o _ (show A ≠ A + 3 by omega), up1_o _ (show A ≠ A + 2 by omega), up2_same, hp, h.2.1]
  have ko : ∀ a, a ≠ A → a ≠ A + 2 → a ≠ A + 3 → buK X A a = X a := fun a h1 h2 h3 => by
    unfold buK
    rw [up1_o _ h3, up1_o _ h2]
    funext j
    rw [up2_a _ h1, up2_a _ h1]
  have kz2 : ∀ v, v < 15 → buK X A (A + 2) v = 0 := fun v hv => by
    unfold buK
    rw [up1_o _ (by omega), up1_same, upTo_in (by omega)]
  have kz3 : ∀ v, v < 15 → buK X A (A + 3) v = 0 := fun v hv => by
    unfold buK
    rw [up1_same, upTo_in (by omega)]
  have hK : cDt (buK X A) A H s B := ⟨by rw [k0 0 (by decide) (by decide)]; exact h.1, by rw [k0 1 (by decide) (by decide)]; exact h.2.1, fun k hk => by rw [ko (A + 1) (by omega) (by omega) (by omega)]; exact h.2.2 k hk⟩
  rw [edBu_P hK k3 ⟨hH.1, hs⟩]
  generalize buK X A = Y at *
  have y2 : ∀ (F : Nat → Int) a, a ≠ A + 2 → up1 Y (A + 2) F a = Y a := fun F a h => up1_o _ h
  refine ⟨⟨⟨?_, ?_, fun k hk => ?_⟩, ?_, ?_, ?_, ?_, fun v hv => ?_, fun v hv => ?_⟩, fun a h1 h2 h3 => ?_⟩
  · rw [y2 _ A (by omega)]; exact hK.1
  · rw [y2 _ A (by omega)]; exact hK.2.1
  · rw [y2 _ (A + 1) (by omega)]; exact hK.2.2 k hk
  · rw [y2 _ A (by omega)]; exact k3
  · rw [y2 _ A (by omega)]; exact k4
  · rw [y2 _ A (by omega), k0 6 (by decide) (by decide)]; exact h6
  · rw [y2 _ A (by omega), k0 9 (by decide) (by decide)]; exact h9
  · rw [up1_same]; exact lkL_cg (kz2 v hv)
  · rw [y2 _ (A + 3) (by omega)]; exact kz3 v hv
  · rw [y2 _ a h2]; exact ko a h1 h2 h3
theorem bu_N (h : cDt X A H s B) (hr : ¬rsz H s B ≤ 7) : ∀ a, a ≠ A → buI X A a = X a := fun a ha => by
  have hp := prC_P h
  unfold buI
  rw [if_neg (by rw [hp]; exact hr)]
  funext j
  rw [up2_a _ ha]
/-- what reading a piece leaves alone in the class -/
def pcF (U A : Nat) (X J : Nat → Nat → Int) : Prop := (∀ a, a ≠ 32 → a ≠ U → a ≠ A → a ≠ A + 1 → a ≠ A + 2 → a ≠ A + 3 → J a = X a) ∧ ∀ k, k ≠ 1 → J U k = X U k
theorem pcF_trans (h : pcF U A X J) (g : pcF U A J K) : pcF U A X K := ⟨fun a h1 h2 h3 h4 h5 h6 => by rw [g.1 a h1 h2 h3 h4 h5 h6]; exact h.1 a h1 h2 h3 h4 h5 h6, fun k hk => by rw [g.2 k hk]; exact h.2 k hk⟩
theorem pcF_of (hU : U = 34 ∨ U = 77) (hA : A = U + 7 + 9 * p) (h : ∀ a, a ≠ 32 → a ≠ A → a ≠ A + 1 → a ≠ A + 2 → a ≠ A + 3 → J a = X a) : pcF U A X J := ⟨fun a h1 _ h3 h4 h5 h6 => h a h1 h3 h4 h5 h6, fun k _ => by rw [h U (by omega) (by omega) (by omega) (by omega) (by omega)]⟩
/-- what reading a piece leaves in the class -/
def pcQ (t : Nat → Int) (n U A p H : Nat) (P : (Int × Nat) ⊕ (Nat × Nat × (Nat → Int))) (v : Int) (J : Nat → Nat → Int) : Prop := (∀ k q', P = .inl (k, q') → v = k ∧ J 32 4 = (tkS t n q' : Int) ∧ k ≠ 0) ∧ ∀ s q' B, P = .inr (s, q', B) → v = 0 ∧ J U 1 = (p : Int) + 1 ∧ pcD J A H s B ∧ J 32 1 = (n : Int) ∧ J 32 2 = (tkE t n q' : Int) ∧ q' ≤ n
theorem pcQ_bad {P : (Int × Nat) ⊕ (Nat × Nat × (Nat → Int))} {k : Int} {q' : Nat} (hP : P = .inl (k, q')) (h4 : J 32 4 = (tkS t n q' : Int)) (hk : k ≠ 0) : pcQ t n U A p H P k J := by
  refine ⟨fun k' q'' e => ?_, fun s q'' B e => ?_⟩
  · rw [hP] at e; cases e; exact ⟨rfl, h4, hk⟩
  · rw [hP] at e; cases e
theorem rp_L (hU : U = 34 ∨ U = 77) (hA : A = U + 7 + 9 * p) (hl0 : LyX10 S) (hl1 : LyX0 S U) (hn : n ≤ 700) (hp : p < 4) (hH : 5 ≤ H ∧ H ≤ 7) : ∀ (f i q : Nat) (B : Nat → Int) (x2 : Int) (X : Nat → Nat → Int), f + i = 8 → i ≤ H → q ≤ n → txR (X 33) t → X 32 1 = (n : Int) → X 32 2 = (q : Int) → cDt X A H i B → X A 6 = 0 → X A 9 = 0 → X U 1 = (p : Int) → (∀ k, k < i → 5 ≤ B k ∧ B k ≤ 9) → ∃ v J, L_X5_readPiece_45 d 32 U x2 A (i : Int) X S v (J, S) ∧ pcF U A X J ∧ pcQ t n U A p H (pcL t n H f i q B) v J := by
  have hl3 : LyX3 S A := by rw [hA]; exact ly_X0_q hl1 hp
  intro f
  induction f with
  | zero => intro i q B x2 X hf hi; exact absurd hf (by omega)
  | succ f ih =>
    intro i q B x2 X hf hi hq ht h1 h2 hD h6 h9 hP hB
    have hin := tk_in t hq
    obtain ⟨a1, a2, a3⟩ := ad_C (d := d + 3) hl0 ht h1 h2 hn hq
    have e3 := a2.2.2.2.1
    have e4 := a2.2.2.1
    have oA := a3 A (by omega)
    have oA1 := a3 (A + 1) (by omega)
    have oU := a3 U (by omega)
    have F1 : pcF U A X (adI X) := pcF_of hU hA (fun a h _ _ _ _ => a3 a h)
    have D1 : cDt (adI X) A H i B := ⟨by rw [oA]; exact hD.1, by rw [oA]; exact hD.2.1, by rw [oA1]; exact hD.2.2⟩
    have u : pcL t n H (f + 1) i q B = if tkK t n q = 2 then (if nfK t n q 5 9 ≠ 0 ∨ H ≤ i then .inl (2, q) else pcL t n H f (i + 1) (tkE t n q) (up1 B i (gsV t n q))) else if tkK t n q = 3 then (if rsz H i B ≤ 7 then .inr (i, q, B) else .inl (2, q)) else .inl (1, q) := rfl
    by_cases k3 : tkK t n q = 3
    · have x3 : adI X 32 3 = 3 := e3.trans k3
      rw [if_neg (by omega), if_pos k3] at u
      have cb := c_X3_build (d := d + 1) (I := adI X) hl3 (cPc_P D1 hH hi hB)
      rw [prC_P D1] at cb
      by_cases hr : rsz H i B ≤ 7
      · rw [if_pos hr] at u cb
        obtain ⟨b1, b2⟩ := bu_P D1 hH hi (by rw [oA]; exact h6) (by rw [oA]; exact h9) hr
        have bU : buI (adI X) A U = X U := by rw [b2 U (by omega) (by omega) (by omega), oU]
        have ck := c_X0_keepPiece (d := d + 4) (I := buI (adI X) A) (S := S) (a0 := U) hl1 (by rw [bU, hP]; omega)
        rw [bU, hP] at ck
        generalize hY : buI (adI X) A = Y at *
        refine ⟨0, up2 Y U 1 ((p : Int) + 1), w_X5_readPiece_45 (J1 := adI X) (J2 := Y) (z2 := true) hl0 hl1 hl3 (fun _ => a1) (fun _ w => absurd x3 w) (fun _ _ => cb) (fun _ _ _ => ck) (r1 := fun w => absurd w (by omega)) (e1 := fun w => absurd w (by omega)) (r2 := fun _ _ w => absurd rfl w) (e2 := fun _ _ w => absurd rfl w) (r3 := fun _ _ _ => rfl) (e3 := fun _ _ _ => rfl), ?_, ?_⟩
        · refine pcF_trans F1 (pcF_trans (pcF_of hU hA (fun a _ h1 _ h3 h4 => b2 a h1 h3 h4)) ⟨fun a _ h2 _ _ _ _ => funext (fun k => up2_a _ h2), fun k hk => up2_k _ hk⟩)
        · rw [u]
          refine ⟨fun k q' e => (by cases e), fun s q' B' e => ?_⟩
          cases e
          have z : ∀ a, a ≠ U → up2 Y U 1 ((p : Int) + 1) a = Y a := fun a h => funext (fun k => up2_a _ h)
          obtain ⟨d1, d2, d3, d4, d5, d6, d7⟩ := b1
          refine ⟨rfl, up2_same _ _ _ _, ⟨⟨?_, ?_, ?_⟩, ?_, ?_, ?_, ?_, ?_, ?_⟩, ?_, ?_, hq⟩
          · rw [z A (by omega)]; exact d1.1
          · rw [z A (by omega)]; exact d1.2.1
          · rw [z (A + 1) (by omega)]; exact d1.2.2
          · rw [z A (by omega)]; exact d2
          · rw [z A (by omega)]; exact d3
          · rw [z A (by omega)]; exact d4
          · rw [z A (by omega)]; exact d5
          · rw [z (A + 2) (by omega)]; exact d6
          · rw [z (A + 3) (by omega)]; exact d7
          · rw [z 32 (by omega), b2 32 (by omega) (by omega) (by omega)]; exact a2.1
          · rw [z 32 (by omega), b2 32 (by omega) (by omega) (by omega)]; exact a2.2.1
      · rw [if_neg hr] at u cb
        have b2 := bu_N D1 hr
        refine ⟨2, buI (adI X) A, w_X5_readPiece_45 (J1 := adI X) (J2 := buI (adI X) A) (J3 := X) (z2 := false) (z3 := 0) hl0 hl1 hl3 (fun _ => a1) (fun _ w => absurd x3 w) (fun _ _ => cb) (fun _ _ w => absurd w (by decide)) (r1 := fun w => absurd w (by omega)) (e1 := fun w => absurd w (by omega)) (r2 := fun _ _ _ => rfl) (e2 := fun _ _ _ => rfl) (r3 := fun _ _ w => absurd w (by decide)) (e3 := fun _ _ w => absurd w (by decide)), pcF_trans F1 (pcF_of hU hA (fun a _ h1 _ _ _ => b2 a h1)), pcQ_bad u (by rw [b2 32 (by omega)]; exact e4) (by decide)⟩
    · have x3 : adI X 32 3 ≠ 3 := fun w => k3 (e3.symm.trans w)
      have goto : ∀ v J, L_X5_readPiece_80 d 32 U x2 A (i : Int) (adI X) S v (J, S) → L_X5_readPiece_45 d 32 U x2 A (i : Int) X S v (J, S) := fun v J kk => w_X5_readPiece_45 (J1 := adI X) (J2 := X) (J3 := X) (z2 := false) (z3 := 0) hl0 hl1 hl3 (fun _ => a1) (fun _ _ => kk) (fun _ w => absurd w x3) (fun _ w => absurd w x3) (r1 := fun w => absurd w (by omega)) (e1 := fun w => absurd w (by omega)) (r2 := fun _ w => absurd w x3) (e2 := fun _ w => absurd w x3) (r3 := fun _ w => absurd w x3) (e3 := fun _ w => absurd w x3)
      have ck := ck_C (d := d + 4) (lo := 5) (hi := 9) hl0 a2 (by decide) (by decide)
      by_cases c : nfK t n q 5 9 = 0
      · obtain ⟨k2, c2, c3, c4, c5⟩ := nf_0 c
        have e5 : adI X 32 5 = gsV t n q := a2.2.2.2.2.trans c5
        rw [if_pos k2] at u
        by_cases hi9 : H ≤ i
        · rw [if_pos (Or.inr hi9)] at u
          have an := c_X3_addSpoke_n (d := d + 4) (I := adI X) (S := S) (a0 := A) (x1 := gsV t n q) hl3 (fun w => absurd w (by rw [D1.1, D1.2.1]; omega)) (fun w => absurd w (by rw [D1.1, D1.2.1]; omega)) (fun w => absurd w.1 (by rw [D1.1, D1.2.1]; omega))
          exact ⟨2, adI X, goto _ _ (w_X5_readPiece_80 (J1 := adI X) (J2 := adI X) (z1 := nfK t n q 5 9) (z2 := false) hl0 hl1 hl3 ck (fun _ => by rw [e5]; exact an) (fun _ w => absurd w (by decide)) (r1 := fun _ _ => rfl) (e1 := fun _ _ => rfl) (r2 := fun w => absurd c w) (e2 := fun w => absurd c w) (v1 := fun _ w => absurd w (by decide))), F1, pcQ_bad u e4 (by decide)⟩
        · rw [if_neg (fun w => w.elim (fun w => w c) hi9)] at u
          have r1 : ∀ w, (up2 (adI X) (A + 1) i w) A 1 = (i : Int) := fun w => by rw [up2_a _ (by omega)]; exact D1.2.1
          have ay := c_X3_addSpoke_y (d := d + 4) (I := adI X) (S := S) (a0 := A) (x1 := gsV t n q) hl3 (fun _ _ => by rw [D1.2.1]; omega) (fun _ _ => by rw [up2_a _ (by omega), D1.2.1]; omega) (by rw [D1.1, D1.2.1]; omega)
          rw [D1.2.1, Int.toNat_natCast, r1] at ay
          generalize hY : up2 (up2 (adI X) (A + 1) i (gsV t n q)) A 1 ((i : Int) + 1) = Y at ay
          have y0 : ∀ a, a ≠ A → a ≠ A + 1 → Y a = adI X a := fun a h1 h2 => by rw [← hY]; funext k; rw [up2_a _ h1, up2_a _ h2]
          have yA : ∀ k, k ≠ 1 → Y A k = X A k := fun k hk => by rw [← hY, up2_k _ hk, up2_a _ (by omega), oA]
          have yD : cDt Y A H (i + 1) (up1 B i (gsV t n q)) := by
            refine ⟨by rw [yA 0 (by decide)]; exact hD.1, by rw [← hY, up2_same]; rfl, fun k hk => ?_⟩
            rw [← hY, up2_a _ (by omega)]
            by_cases ki : k = i
            · rw [ki, up2_same, up1_same]
            · rw [up2_k _ ki, up1_o _ ki]; exact D1.2.2 k (by omega)
          obtain ⟨v, J, q1, q2, q3⟩ := ih (i + 1) (tkE t n q) (up1 B i (gsV t n q)) (nfK t n q 5 9) Y (by omega) (by omega) hin.2.2.2 (by rw [y0 33 (by omega) (by omega), a3 33 (by decide)]; exact ht) (by rw [y0 32 (by omega) (by omega)]; exact a2.1) (by rw [y0 32 (by omega) (by omega)]; exact a2.2.1) yD (by rw [yA 6 (by decide)]; exact h6) (by rw [yA 9 (by decide)]; exact h9) (by rw [y0 U (by omega) (by omega), oU]; exact hP) (fun k hk => by
            by_cases ki : k = i
            · rw [ki, up1_same]; exact ⟨c3, c4⟩
            · rw [up1_o _ ki]; exact hB k (by omega))
          rw [← u] at q3
          exact ⟨v, J, goto _ _ (w_X5_readPiece_80 (J1 := adI X) (J2 := Y) (z1 := nfK t n q 5 9) (z2 := true) hl0 hl1 hl3 ck (fun _ => by rw [e5]; exact ay) (fun _ _ => q1) (r1 := fun _ w => absurd rfl w) (e1 := fun _ w => absurd rfl w) (r2 := fun w => absurd c w) (e2 := fun w => absurd c w) (v1 := fun _ _ => by omega)), pcF_trans F1 (pcF_trans (pcF_of hU hA (fun a _ h1 h2 _ _ => y0 a h1 h2)) q2), q3⟩
      · have hR : pcL t n H (f + 1) i q B = .inl (nfK t n q 5 9, q) := by
          rw [u]
          by_cases k2 : tkK t n q = 2
          · rw [if_pos k2, if_pos (Or.inl c)]
            rw [(nf_kind (lo := 5) (hi := 9) k2).resolve_left c]
          · rw [if_neg k2, if_neg k3, nf_no k2]
        exact ⟨nfK t n q 5 9, adI X, goto _ _ (w_X5_readPiece_80 (J1 := adI X) (J2 := X) (z1 := nfK t n q 5 9) (z2 := true) hl0 hl1 hl3 ck (fun w => absurd w c) (fun w => absurd w c) (r1 := fun w => absurd w c) (e1 := fun w => absurd w c) (r2 := fun _ => rfl) (e2 := fun _ => rfl) (v1 := fun w => absurd w c)), F1, pcQ_bad hR e4 c⟩
/-- a piece is read, from the token behind its word -/
theorem rp_C (hU : U = 34 ∨ U = 77) (hA : A = U + 7 + 9 * p) (hl0 : LyX10 S) (hl1 : LyX0 S U) (ht : txR (X 33) t) (hn : n ≤ 700) (hp : p < 4) (hq : q ≤ n) (h1 : X 32 1 = (n : Int)) (h2 : X 32 2 = (q : Int)) (hP : X U 1 = (p : Int)) : ∃ v J, Ca (d + 5) mX5_readPiece [vR (some (20, 0, 32)), vR (some (11, 0, U))] (X, S) (.inl (some (vI v))) (J, S) ∧ pcF U A X J ∧ pcQ t n U A p (gsV t n q).toNat (pcP t n q) v J := by
  have hl3 : LyX3 S A := by rw [hA]; exact ly_X0_q hl1 hp
  have hin := tk_in t hq
  obtain ⟨a1, a2, a3⟩ := rn_C (d := d + 2) (lo := 5) (hi := 7) hl0 ht h1 h2 hn hq (by decide) (by decide)
  have F1 : pcF U A X (adI X) := pcF_of hU hA (fun a h _ _ _ _ => a3 a h)
  have oU : adI X U 1 = (p : Int) := by rw [a3 U (by omega)]; exact hP
  have eA : U + 7 + 9 * (adI X U 1).toNat = A := by rw [oU, hA, Int.toNat_natCast]
  unfold pcP
  by_cases c : nfK t n q 5 7 = 0
  · rw [if_neg (fun w => w c)]
    obtain ⟨c1, c2, c3, c4, c5⟩ := nf_0 c
    have e5 : adI X 32 5 = gsV t n q := a2.2.2.2.2.trans c5
    have cb := c_X3_begin (d := d + 4) (I := adI X) (S := S) (a0 := A) (x1 := gsV t n q) hl3
    generalize hY : up2 (up2 (up2 (up2 (adI X) A 0 (gsV t n q)) A 1 0) A 6 0) A 9 0 = Y at cb
    have y0 : ∀ a, a ≠ A → Y a = adI X a := fun a h => by rw [← hY]; funext k; rw [up2_a _ h, up2_a _ h, up2_a _ h, up2_a _ h]
    have y1 : Y A 0 = gsV t n q ∧ Y A 1 = 0 ∧ Y A 6 = 0 ∧ Y A 9 = 0 := by rw [← hY]; exact ⟨by rw [up2_k _ (by decide), up2_k _ (by decide), up2_k _ (by decide), up2_same], by rw [up2_k _ (by decide), up2_k _ (by decide), up2_same], by rw [up2_k _ (by decide), up2_same], up2_same _ _ _ _⟩
    obtain ⟨v, J, q1, q2, q3⟩ := rp_L (d := d) (t := t) (H := (gsV t n q).toNat) hU hA hl0 hl1 hn hp (by omega) 8 0 (tkE t n q) (fun _ => 0) (nfK t n q 5 7) Y rfl (by omega) hin.2.2.2 (by rw [y0 33 (by omega), a3 33 (by decide)]; exact ht) (by rw [y0 32 (by omega)]; exact a2.1) (by rw [y0 32 (by omega)]; exact a2.2.1) ⟨by rw [y1.1]; omega, y1.2.1, fun k hk => absurd hk (by omega)⟩ y1.2.2.1 y1.2.2.2 (by rw [y0 U (by omega)]; exact oU) (fun k hk => absurd hk (by omega))
    exact ⟨v, J, w_X5_readPiece_0 (J1 := adI X) (J2 := Y) hl0 hl1 (fun _ => a1) (fun _ _ => by rw [eA, e5]; exact cb) (fun _ _ => by rw [eA]; exact q1) (r1 := fun _ w => absurd c w) (e1 := fun _ w => absurd c w) (r2 := fun w => absurd w (by omega)) (e2 := fun w => absurd w (by omega)) (v1 := fun _ _ => by rw [oU]; omega), pcF_trans F1 (pcF_trans (pcF_of hU hA (fun a _ h1 _ _ _ => y0 a h1)) q2), q3⟩
  · rw [if_pos c]
    exact ⟨nfK t n q 5 7, adI X, w_X5_readPiece_0 (J1 := adI X) (J2 := X) hl0 hl1 (fun _ => a1) (fun _ w => absurd w c) (fun _ w => absurd w c) (r1 := fun _ _ => rfl) (e1 := fun _ _ => rfl) (r2 := fun w => absurd w (by omega)) (e2 := fun w => absurd w (by omega)) (v1 := fun _ w => absurd w c), F1, pcQ_bad rfl a2.2.2.1 c⟩
theorem rp_4 (hl0 : LyX10 S) (hl1 : LyX0 S U) (hP : X U 1 = 4) : Ca (d + 5) mX5_readPiece [vR (some (20, 0, 32)), vR (some (11, 0, U))] (X, S) (.inl (some (vI 2))) (X, S) :=
  w_X5_readPiece_0 (J1 := X) (J2 := X) (z1 := 0) hl0 hl1 (fun w => absurd w (by omega)) (fun w => absurd w (by omega)) (fun w => absurd w (by omega)) (r1 := fun w => absurd w (by omega)) (e1 := fun w => absurd w (by omega)) (r2 := fun _ => rfl) (e2 := fun _ => rfl) (v1 := fun w => absurd w (by omega))
end
end
