/-! ===== a piece is laid out, the reference's ===== -/
noncomputable section
/-- how many good codes there are below one -/
def cnG (r : Int) : Nat → Int
  | 0 => 0
  | m + 1 => cnG r m + (if goodC r (m : Int) = true then 1 else 0)
theorem cnG_in (r : Int) : ∀ m : Nat, 0 ≤ cnG r m ∧ cnG r m ≤ m
  | 0 => ⟨Int.le_refl 0, Int.le_refl 0⟩
  | m + 1 => by
    have := cnG_in r m
    unfold cnG
    split <;> omega
theorem cnG_mono (r : Int) {i m : Nat} (h : i ≤ m) : cnG r i ≤ cnG r m := by
  induction h with
  | refl => exact Int.le_refl _
  | @step m _ ih =>
    refine Int.le_trans ih ?_
    have e : cnG r (m + 1) = cnG r m + (if goodC r (m : Int) = true then 1 else 0) := rfl
    rw [e]
    split <;> omega
theorem cnG_lt (r : Int) {i m : Nat} (h : i < m) (hg : goodC r (i : Int) = true) : cnG r i < cnG r m := by
  have h1 := cnG_mono r (show i + 1 ≤ m from h)
  have e : cnG r (i + 1) = cnG r i + (if goodC r (i : Int) = true then 1 else 0) := rfl
  rw [e, if_pos hg] at h1
  omega
def ixG (r : Int) (m : Nat) : Int := if goodC r (m : Int) = true then cnG r m else -1
/-- places that laying a piece out leaves alone -/
def okA (p a i : Nat) : Prop := a ≠ 172 ∧ a ≠ 173 ∧ a ≠ 174 ∧ a ≠ 175 ∧ a ≠ 176 ∧ ¬(a = 156 ∧ i = 37) ∧ ¬(a = 167 ∧ i = p) ∧ ¬((a = 168 ∨ a = 169 ∨ a = 170 ∨ a = 171) ∧ 96 * p ≤ i ∧ i < 96 * p + 96)
def lpF (p : Nat) (I J : Nat → Nat → Int) : Prop := ∀ a i, okA p a i → J a i = I a i
section
variable {d : Nat} {I : Nat → Nat → Int} {S : PS} {p : Nat}
theorem lpF_up {J : Nat → Nat → Int} {b k : Nat} {v : Int} (h : lpF p I J) (hn : ¬okA p b k) : lpF p I (up2 J b k v) := by
  intro a i ho
  rw [up2_f (fun q => hn (by rw [← q.1, ← q.2]; exact ho))]
  exact h a i ho
theorem lpF_nm {J : Nat → Nat → Int} {r x : Int} (h : lpF p I J) : lpF p I (nmI J r x) := by
  intro a i ho
  unfold nmI
  rw [up1_o _ ho.2.2.1]
  exact h a i ho
theorem lpF_a {J : Nat → Nat → Int} {a : Nat} (h : lpF p I J) (ho : ∀ i, okA p a i) : J a = I a := funext (fun i => h a i (ho i))
theorem okA_p (i : Nat) : okA p 159 i := ⟨by decide, by decide, by decide, by decide, by decide, fun q => absurd q.1 (by decide), fun q => absurd q.1 (by decide), fun q => absurd q.1 (by decide)⟩
theorem okA_e (i : Nat) : okA p 165 i := ⟨by decide, by decide, by decide, by decide, by decide, fun q => absurd q.1 (by decide), fun q => absurd q.1 (by decide), fun q => absurd q.1 (by decide)⟩
/-- codes are gone through -/
theorem lp_codes {r A : Nat} (hl0 : LyX12 S) (hp : p < 4) (hr : I 159 ((20 * (p : Int)) + 9).toNat = (r : Int)) (hr7 : 1 ≤ r ∧ r ≤ 7) (hA : A ≤ 16384) (hcn : cnG (r : Int) A ≤ 95) : ∀ (t m : Nat) (J : Nat → Nat → Int), m + t = A → lpF p I J → (∀ i, i < m → J 172 i = ixG (r : Int) i) → (∀ i, i < m → goodC (r : Int) (i : Int) = true → J 168 (96 * p + (cnG (r : Int) i).toNat) = (i : Int)) → ∃ J', lpF p I J' ∧ J' 167 p = cnG (r : Int) A ∧ (∀ i, i < A → J' 172 i = ixG (r : Int) i) ∧ (∀ i, i < A → goodC (r : Int) (i : Int) = true → J' 168 (96 * p + (cnG (r : Int) i).toNat) = (i : Int)) ∧ ∀ h1, L_X12_laysPiece_94 d 156 (p : Int) (cnG (r : Int) A) (A : Int) 0 J' S h1 → L_X12_laysPiece_15 d 156 (p : Int) (cnG (r : Int) m) (A : Int) (m : Int) J S h1 := by
  intro t
  induction t with
  | zero =>
    intro m J hm hF hix hcd
    have hmA : m = A := by omega
    subst hmA
    have jr : J 159 ((20 * (p : Int)) + 9).toNat = (r : Int) := by rw [hF _ _ (okA_p _)]; exact hr
    refine ⟨up2 J 167 ((p : Int).toNat) (cnG (r : Int) m), lpF_up hF (fun q => q.2.2.2.2.2.2.1 ⟨rfl, by omega⟩), by rw [Int.toNat_natCast, up2_same], fun i hi => by rw [up2_a _ (by decide)]; exact hix i hi, fun i hi hg => by rw [up2_a _ (by decide)]; exact hcd i hi hg, fun h1 hk => ?_⟩
    exact w_X12_laysPiece_15 hl0 (fun _ => hk) (fun h => absurd h (by omega)) (fun h => absurd h (by omega)) (fun h => absurd h (by omega)) (v4 := fun h => absurd h (by omega)) (v6 := fun h => absurd h (by omega)) (v9 := fun h => absurd h (by omega))
  | succ t ih =>
    intro m J hm hF hix hcd
    have jr : J 159 ((20 * (p : Int)) + 9).toNat = (r : Int) := by rw [hF _ _ (okA_p _)]; exact hr
    have hc1 := cnG_in (r : Int) m
    have hc2 := cnG_mono (r : Int) (show m ≤ A by omega)
    have hst : cnG (r : Int) (m + 1) = cnG (r : Int) m + (if goodC (r : Int) (m : Int) = true then 1 else 0) := rfl
    have hgd : goodC (r : Int) (m : Int) = (isPr (r : Int) (m : Int) && decide ((nmS (r : Int) (m : Int) (r : Int).toNat).1 = (m : Int))) := rfl
    have rest : ∀ X : Nat → Nat → Int, lpF p I X → goodC (r : Int) (m : Int) = false → X 172 m = -1 → (∀ i, i < m → X 172 i = J 172 i) → (∀ i, X 168 i = J 168 i) → ∃ J', lpF p I J' ∧ J' 167 p = cnG (r : Int) A ∧ (∀ i, i < A → J' 172 i = ixG (r : Int) i) ∧ (∀ i, i < A → goodC (r : Int) (i : Int) = true → J' 168 (96 * p + (cnG (r : Int) i).toNat) = (i : Int)) ∧ ∀ h1, L_X12_laysPiece_94 d 156 (p : Int) (cnG (r : Int) A) (A : Int) 0 J' S h1 → L_X12_laysPiece_15 d 156 (p : Int) (cnG (r : Int) m) (A : Int) ((m : Int) + 1) X S h1 := fun X hX hb x1 x2 x3 => by
      have := ih (m + 1) X (by omega) hX (fun i hi => by
        by_cases e : i = m
        · rw [e, x1]; unfold ixG; rw [hb]; rfl
        · rw [x2 i (by omega)]; exact hix i (by omega)) (fun i hi hg => by
        by_cases e : i = m
        · rw [e, hb] at hg; cases hg
        · rw [x3]; exact hcd i (by omega) hg)
      rw [hst, hb, if_neg (by decide), Int.add_zero] at this
      exact this
    have hF1 : lpF p I (up2 J 172 ((m : Int).toNat) (-1)) := lpF_up hF (fun q => q.1 rfl)
    by_cases hpr : isPr (r : Int) (m : Int) = true
    · by_cases hnm : (nmS (r : Int) (m : Int) (r : Int).toNat).1 = (m : Int)
      · have hb : goodC (r : Int) (m : Int) = true := by rw [hgd, hpr, decide_eq_true hnm]; rfl
        have hlt : cnG (r : Int) m < cnG (r : Int) A := cnG_lt (r : Int) (show m < A by omega) hb
        have hcI : ((96 * (p : Int)) + cnG (r : Int) m).toNat = 96 * p + (cnG (r : Int) m).toNat := by omega
        obtain ⟨J', g1, g2, g3, g4, g5⟩ := ih (m + 1) (up2 (up2 (nmI (up2 J 172 ((m : Int).toNat) (-1)) (r : Int) (m : Int)) 172 ((m : Int).toNat) (cnG (r : Int) m)) 168 (((96 * (p : Int)) + cnG (r : Int) m).toNat) (m : Int)) (by omega) (lpF_up (lpF_up (lpF_nm hF1) (fun q => q.1 rfl)) (fun q => q.2.2.2.2.2.2.2 ⟨Or.inl rfl, by omega, by omega⟩)) (fun i hi => by
          rw [up2_a _ (by decide), Int.toNat_natCast]
          by_cases e : i = m
          · rw [e, up2_same]; unfold ixG; rw [if_pos hb]
          · rw [up2_k _ e]
            show (up2 J 172 m (-1)) 172 i = _
            rw [up2_k _ e]; exact hix i (by omega)) (fun i hi hg => by
          rw [hcI]
          by_cases e : i = m
          · rw [e, up2_same]
          · have := cnG_lt (r : Int) (show i < m by omega) hg
            have := cnG_in (r : Int) i
            rw [up2_k _ (by omega), up2_a _ (by decide)]
            show (up2 J 172 (m : Int).toNat (-1)) 168 _ = _
            rw [up2_a _ (by decide)]
            exact hcd i (by omega) hg)
        rw [hst, hb, if_pos rfl] at g5
        refine ⟨J', g1, g2, g3, g4, fun h1 hk => w_X12_laysPiece_15 hl0 (fun h => absurd h (by omega)) (fun _ h => absurd (by rw [jr]; exact hpr) h) (fun _ _ _ => ?_) (fun _ _ h => absurd (by rw [jr]; exact hnm) h) (v4 := fun _ => by rw [jr]; omega) (v6 := fun _ _ => by rw [jr]; omega) (v9 := fun _ _ _ => by omega)⟩
        rw [jr]
        exact g5 h1 hk
      · have hb : goodC (r : Int) (m : Int) = false := by rw [hgd, decide_eq_false hnm, Bool.and_false]
        obtain ⟨J', g1, g2, g3, g4, g5⟩ := rest (nmI (up2 J 172 ((m : Int).toNat) (-1)) (r : Int) (m : Int)) (lpF_nm hF1) hb (by rw [Int.toNat_natCast]; show (up2 J 172 m (-1)) 172 m = -1; rw [up2_same]) (fun i hi => by rw [Int.toNat_natCast]; show (up2 J 172 m (-1)) 172 i = _; rw [up2_k _ (by omega)]) (fun i => by show (up2 J 172 (m : Int).toNat (-1)) 168 i = _; rw [up2_a _ (by decide)])
        refine ⟨J', g1, g2, g3, g4, fun h1 hk => w_X12_laysPiece_15 hl0 (fun h => absurd h (by omega)) (fun _ h => absurd (by rw [jr]; exact hpr) h) (fun _ _ h => absurd (by rw [jr] at h; exact h) hnm) (fun _ _ _ => ?_) (v4 := fun _ => by rw [jr]; omega) (v6 := fun _ _ => by rw [jr]; omega) (v9 := fun _ _ h => absurd (by rw [jr] at h; exact h) hnm)⟩
        rw [jr]
        exact g5 h1 hk
    · have hb : goodC (r : Int) (m : Int) = false := by rw [hgd, Bool.eq_false_iff.mpr hpr, Bool.false_and]
      obtain ⟨J', g1, g2, g3, g4, g5⟩ := rest (up2 J 172 ((m : Int).toNat) (-1)) hF1 hb (by rw [Int.toNat_natCast, up2_same]) (fun i hi => by rw [Int.toNat_natCast, up2_k _ (by omega)]) (fun i => by rw [up2_a _ (by decide)])
      exact ⟨J', g1, g2, g3, g4, fun h1 hk => w_X12_laysPiece_15 hl0 (fun h => absurd h (by omega)) (fun _ _ => g5 h1 hk) (fun _ h => absurd (by rw [jr] at h; exact h) hpr) (fun _ h => absurd (by rw [jr] at h; exact h) hpr) (v4 := fun _ => by rw [jr]; omega) (v6 := fun _ _ => by rw [jr]; omega) (v9 := fun _ h => absurd (by rw [jr] at h; exact h) hpr)⟩
/-- which colourings extend -/
def lpE (ed jn : Nat → Nat → Bool) (F V : Nat) (w : Bool) (code : Int) : Bool := (exW ed jn w (V - F) F (rcG (F : Int) code)).isSome
/-- what is known of the colourings behind the first c of them -/
def lpX (I J : Nat → Nat → Int) (p : Nat) (ed jn : Nat → Nat → Bool) (F V : Nat) (cd : Nat → Int) (c : Nat) : Prop := J 169 (96 * p + c) = (if lpE ed jn F V false (cd c) = true then 1 else 0) ∧ J 170 (96 * p + c) = (if (decide (0 < I 159 ((20 * (p : Int)) + 10).toNat) && lpE ed jn F V true (cd c)) = true then 1 else 0)
theorem lp_ext {F V N : Nat} {A : Int} {ed jn : Nat → Nat → Bool} {cd : Nat → Int} (hl0 : LyX12 S) (hp : p < 4) (hE : mEd I (p : Int) V ed jn) (hF : I 159 ((20 * (p : Int)) + 9).toNat = (F : Int)) (hF7 : 1 ≤ F ∧ F ≤ 7) (hV : ((F : Int) + 1) + I 159 ((20 * (p : Int)) + 1).toNat = (V : Int)) (hs : 0 ≤ I 159 ((20 * (p : Int)) + 1).toNat ∧ I 159 ((20 * (p : Int)) + 1).toNat ≤ 7) (hN : N ≤ 96) : ∀ (t c : Nat) (J : Nat → Nat → Int), c + t = N → lpF p I J → (∀ i, i < N → J 168 (96 * p + i) = cd i) → (∀ i, i < c → lpX I J p ed jn F V cd i ∧ J 171 (96 * p + i) = (if lpE ed jn F V false (cd i) = true then 0 else -1)) → ∃ J', lpF p I J' ∧ J' 172 = J 172 ∧ J' 167 = J 167 ∧ J' 168 = J 168 ∧ (∀ i, i < N → lpX I J' p ed jn F V cd i ∧ J' 171 (96 * p + i) = (if lpE ed jn F V false (cd i) = true then 0 else -1)) ∧ ∀ h1, L_X12_laysPiece_215 d 156 (p : Int) (N : Int) A 1 1 J' S h1 → L_X12_laysPiece_94 d 156 (p : Int) (N : Int) A (c : Int) J S h1 := by
  intro t
  induction t with
  | zero =>
    intro c J hc hFr hcd hx
    have hcN : c = N := by omega
    subst hcN
    exact ⟨J, hFr, rfl, rfl, rfl, hx, fun h1 hk => w_X12_laysPiece_94 (J1 := J) (J2 := J) (z1 := true) (z2 := true) hl0 (fun _ => hk) (fun h => absurd h (by omega)) (fun h => absurd h (by omega)) (fun h => absurd h (by omega)) (fun h => absurd h (by omega))⟩
  | succ t ih =>
    intro c J hc hFr hcd hx
    have hci : ((96 * (p : Int)) + (c : Int)).toNat = 96 * p + c := by omega
    have jp : J 159 = I 159 := lpF_a hFr okA_p
    have je : J 165 = I 165 := lpF_a hFr okA_e
    have hEJ : mEd J (p : Int) V ed jn := mEd_of hE jp je
    obtain ⟨J1, hc1, hf1, _⟩ := dx_M (d := d + 4) (I := J) (S := S) (p := (p : Int)) (code := cd c) (F := F) (V := V) (w := false) hl0 hEJ (by rw [jp]; exact hF) hF7 (by rw [jp]; exact hV) (by rw [jp]; exact hs)
    have hc1 : Ca (d + 6) mX12_doesExtend [vR (some (22, 0, 156)), vI (p : Int), vI (J 168 ((96 * (p : Int)) + (c : Int)).toNat), vI 0] (J, S) (.inl (some (vI (if lpE ed jn F V false (cd c) = true then 1 else 0)))) (J1, S) := by
      rw [hci, hcd c (by omega)]
      exact hc1
    have hF1 : lpF p I J1 := fun a i ho => by rw [hf1 a ho.2.1]; exact hFr a i ho
    have j1p : J1 159 = I 159 := lpF_a hF1 okA_p
    have nok : ∀ a, (a = 168 ∨ a = 169 ∨ a = 170 ∨ a = 171) → ¬okA p a (96 * p + c) := fun a ha q => q.2.2.2.2.2.2.2 ⟨ha, by omega, by omega⟩
    -- the next one
    have next : ∀ X : Nat → Nat → Int, lpF p I X → X 172 = J 172 → X 167 = J 167 → X 168 = J 168 → (∀ a, (a = 169 ∨ a = 170 ∨ a = 171) → ∀ i, i ≠ 96 * p + c → X a i = J a i) → lpX I X p ed jn F V cd c → X 171 (96 * p + c) = (if lpE ed jn F V false (cd c) = true then 0 else -1) → ∃ J', lpF p I J' ∧ J' 172 = J 172 ∧ J' 167 = J 167 ∧ J' 168 = J 168 ∧ (∀ i, i < N → lpX I J' p ed jn F V cd i ∧ J' 171 (96 * p + i) = (if lpE ed jn F V false (cd i) = true then 0 else -1)) ∧ ∀ h1, L_X12_laysPiece_215 d 156 (p : Int) (N : Int) A 1 1 J' S h1 → L_X12_laysPiece_94 d 156 (p : Int) (N : Int) A ((c : Int) + 1) X S h1 := fun X hX x1 x2 x3 x4 x5 x6 => by
      obtain ⟨J', g1, g2, g3, g4, g5, g6⟩ := ih (c + 1) X (by omega) hX (fun i hi => by rw [x3]; exact hcd i hi) (fun i hi => by
        by_cases e : i = c
        · rw [e]; exact ⟨x5, x6⟩
        · have h := hx i (by omega)
          unfold lpX at h ⊢
          rw [x4 169 (Or.inl rfl) _ (by omega), x4 170 (Or.inr (Or.inl rfl)) _ (by omega), x4 171 (Or.inr (Or.inr rfl)) _ (by omega)]
          exact h)
      exact ⟨J', g1, by rw [g2, x1], by rw [g3, x2], by rw [g4, x3], g5, g6⟩
    have lev : ∀ b : Bool, (if (if b = true then (1 : Int) else 0) ≠ 1 then ((-1) : Int) else 0) = if b = true then 0 else -1 := fun b => by cases b <;> rfl
    by_cases hj : 0 < I 159 ((20 * (p : Int)) + 10).toNat
    · obtain ⟨X, hX⟩ : ∃ X, X = up2 J1 169 (((96 * (p : Int)) + (c : Int)).toNat) (if lpE ed jn F V false (cd c) = true then (1 : Int) else 0) := ⟨_, rfl⟩
      have hFX : lpF p I X := by rw [hX, hci]; exact lpF_up hF1 (nok _ (by decide))
      have xp : X 159 = I 159 := lpF_a hFX okA_p
      have xe : X 165 = I 165 := lpF_a hFX okA_e
      obtain ⟨J2, hc2, hf2, _⟩ := dx_M (d := d + 4) (I := X) (S := S) (p := (p : Int)) (code := cd c) (F := F) (V := V) (w := true) hl0 (mEd_of hE xp xe) (by rw [xp]; exact hF) hF7 (by rw [xp]; exact hV) (by rw [xp]; exact hs)
      have hc2 : Ca (d + 6) mX12_doesExtend [vR (some (22, 0, 156)), vI (p : Int), vI (J1 168 ((96 * (p : Int)) + (c : Int)).toNat), vI 1] (X, S) (.inl (some (vI (if lpE ed jn F V true (cd c) = true then 1 else 0)))) (J2, S) := by
        rw [hci, hf1 168 (by decide), hcd c (by omega)]
        exact hc2
      have hF2 : lpF p I J2 := fun a i ho => by rw [hf2 a ho.2.1]; exact hFX a i ho
      have e169 : J2 169 (96 * p + c) = (if lpE ed jn F V false (cd c) = true then 1 else 0) := by rw [hf2 169 (by decide), hX, hci, up2_same]
      have old : ∀ a, a ≠ 173 → ∀ i, ¬(a = 169 ∧ i = 96 * p + c) → J2 a i = J a i := fun a ha i hi => by rw [hf2 a ha, hX, hci, up2_f hi, hf1 a ha]
      obtain ⟨J', g1, g2, g3, g4, g5, g6⟩ := next (up2 (up2 J2 170 (((96 * (p : Int)) + (c : Int)).toNat) (if lpE ed jn F V true (cd c) = true then (1 : Int) else 0)) 171 (((96 * (p : Int)) + (c : Int)).toNat) (if J2 169 ((96 * (p : Int)) + (c : Int)).toNat ≠ 1 then ((-1) : Int) else 0)) (by rw [hci]; exact lpF_up (lpF_up hF2 (nok _ (by decide))) (nok _ (by decide))) (by funext i; rw [up2_a _ (by decide), up2_a _ (by decide), old _ (by decide) _ (fun q => absurd q.1 (by decide))]) (by funext i; rw [up2_a _ (by decide), up2_a _ (by decide), old _ (by decide) _ (fun q => absurd q.1 (by decide))]) (by funext i; rw [up2_a _ (by decide), up2_a _ (by decide), old _ (by decide) _ (fun q => absurd q.1 (by decide))]) (fun a ha i hi => by
        rw [hci, up2_k _ hi, up2_k _ hi]
        rcases ha with rfl | rfl | rfl
        · exact old _ (by decide) _ (fun q => hi q.2)
        · exact old _ (by decide) _ (fun q => hi q.2)
        · exact old _ (by decide) _ (fun q => hi q.2)) (by
        unfold lpX
        rw [hci, up2_a _ (by decide), up2_a _ (by decide), e169, up2_a _ (by decide), up2_same, decide_eq_true hj, Bool.true_and]
        exact ⟨rfl, rfl⟩) (by rw [hci, up2_same, e169]; exact lev _)
      refine ⟨J', g1, g2, g3, g4, g5, fun h1 hk => w_X12_laysPiece_94 (J1 := J1) (J2 := J2) (z1 := lpE ed jn F V false (cd c)) (z2 := lpE ed jn F V true (cd c)) hl0 (fun h => absurd h (by omega)) (fun _ => hc1) (fun _ h => absurd h (by rw [j1p]; omega)) (fun _ _ => ?_) (fun _ _ => g6 h1 hk)⟩
      rw [← hX]
      exact hc2
    · have old : ∀ a, a ≠ 173 → ∀ i, J1 a i = J a i := fun a ha i => by rw [hf1 a ha]
      obtain ⟨J', g1, g2, g3, g4, g5, g6⟩ := next (up2 (up2 (up2 J1 169 (((96 * (p : Int)) + (c : Int)).toNat) (if lpE ed jn F V false (cd c) = true then (1 : Int) else 0)) 170 (((96 * (p : Int)) + (c : Int)).toNat) 0) 171 (((96 * (p : Int)) + (c : Int)).toNat) (if (up2 J1 169 (((96 * (p : Int)) + (c : Int)).toNat) (if lpE ed jn F V false (cd c) = true then (1 : Int) else 0)) 169 ((96 * (p : Int)) + (c : Int)).toNat ≠ 1 then ((-1) : Int) else 0)) (by rw [hci]; exact lpF_up (lpF_up (lpF_up hF1 (nok _ (by decide))) (nok _ (by decide))) (nok _ (by decide))) (by funext i; rw [up2_a _ (by decide), up2_a _ (by decide), up2_a _ (by decide), old _ (by decide)]) (by funext i; rw [up2_a _ (by decide), up2_a _ (by decide), up2_a _ (by decide), old _ (by decide)]) (by funext i; rw [up2_a _ (by decide), up2_a _ (by decide), up2_a _ (by decide), old _ (by decide)]) (fun a ha i hi => by
        rw [hci, up2_k _ hi, up2_k _ hi, up2_k _ hi]
        rcases ha with rfl | rfl | rfl
        · exact old _ (by decide) _
        · exact old _ (by decide) _
        · exact old _ (by decide) _) (by
        unfold lpX
        rw [hci, up2_a _ (by decide), up2_a _ (by decide), up2_same, up2_a _ (by decide), up2_same, decide_eq_false hj, Bool.false_and]
        exact ⟨rfl, rfl⟩) (by rw [hci, up2_same, up2_same]; exact lev _)
      exact ⟨J', g1, g2, g3, g4, g5, fun h1 hk => w_X12_laysPiece_94 (J1 := J1) (J2 := J1) (z1 := lpE ed jn F V false (cd c)) (z2 := true) hl0 (fun h => absurd h (by omega)) (fun _ => hc1) (fun _ _ => g6 h1 hk) (fun _ h => absurd h (by rw [j1p]; omega)) (fun _ h => absurd h (by rw [j1p]; omega))⟩
end
end
