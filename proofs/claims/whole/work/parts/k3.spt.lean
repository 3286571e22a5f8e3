/-! ===== a spot is read: the reference's ===== -/
noncomputable section
section
variable {d : Nat} {I J K X Y : Nat → Nat → Int} {S : PS} {n N q : Nat} {t A : Nat → Int}
/-- what reading leaves alone in the reference -/
def rdK (k : Nat) : Prop := k = 3 ∨ k = 4 ∨ gsK k ∨ k = 16 ∨ k = 17 ∨ k = 18
/-- unless something goes wrong, the place of the fault stays -/
def erR (I J : Nat → Nat → Int) : Prop := J 156 3 = 0 → I 156 3 = 0 ∧ J 156 4 = I 156 4
theorem erR_eq (h3 : J 156 3 = I 156 3) (h4 : J 156 4 = I 156 4) : erR I J := fun q => ⟨h3.symm.trans q, h4⟩
theorem erR_trans (h : erR I J) (g : erR J K) : erR I K := fun q => ⟨(h (g q).1).1, (g q).2.trans (h (g q).1).2⟩
theorem erR_bad {k v : Int} (hk : k ≠ 0) : erR X (up2 (up2 X 156 3 k) 156 4 v) := fun q => absurd (show k = 0 from q) hk
def rdF (I J : Nat → Nat → Int) : Prop := (∀ a, a ≠ 156 → a ≠ 162 → a ≠ 163 → a ≠ 164 → a ≠ 166 → J a = I a) ∧ (∀ k, ¬rdK k → J 156 k = I 156 k) ∧ erR I J
theorem rdF_refl : rdF I I := ⟨fun _ _ _ _ _ _ => rfl, fun _ _ => rfl, erR_eq rfl rfl⟩
theorem rdF_trans (h : rdF I J) (g : rdF J K) : rdF I K := ⟨fun a h1 h2 h3 h4 h5 => by rw [g.1 a h1 h2 h3 h4 h5]; exact h.1 a h1 h2 h3 h4 h5, fun k hk => by rw [g.2.1 k hk]; exact h.2.1 k hk, erR_trans h.2.2 g.2.2⟩
theorem rdF_156 (h : ∀ a, a ≠ 156 → J a = I a) (h2 : ∀ k, ¬rdK k → J 156 k = I 156 k) (h3 : erR I J) : rdF I J := ⟨fun a h1 _ _ _ _ => h a h1, h2, h3⟩
theorem rdF_bad {k v : Int} (hk : k ≠ 0 := by first | decide | assumption | omega) : rdF X (up2 (up2 X 156 3 k) 156 4 v) := rdF_156 (fun a ha => funext (fun j => by rw [up2_a _ ha, up2_a _ ha])) (fun j hj => by unfold rdK at hj; rw [up2_k _ (by omega), up2_k _ (by omega)]) (erR_bad hk)
theorem rdF_go (hl0 : LyX12 S) (ht : X 157 = t) (hb : ∀ k, 0 ≤ t k ∧ t k ≤ 255) (hk : TKm X t n q) (hn : n ≤ 700) (hq : q ≤ n) : Ca (d + 1) mX12_goes [vR (some (22, 0, 156))] (X, S) (.inl none) (gsI X, S) ∧ TKm (gsI X) t n (tkE t n q) ∧ rdF X (gsI X) ∧ (∀ a, a ≠ 156 → gsI X a = X a) ∧ ∀ k, ¬gsK k → gsI X 156 k = X 156 k := by
  have hin := tk_in t hq
  obtain ⟨b1, b2, b3, b4⟩ := go_M (d := d) (J := X) (t := t) (n := n) (q := tkE t n q) hl0 ht hb hk.1 hk.2.1 hn hin.2.2.2
  exact ⟨b1, b2, rdF_156 b3 (fun k hk' => b4 k (fun e => hk' (by unfold rdK; exact Or.inr (Or.inr (Or.inl e))))) (erR_eq (b4 3 (by unfold gsK; omega)) (b4 4 (by unfold gsK; omega))), b3, b4⟩
/-- once something is wrong -/
theorem sp_b80 {x1 x3 : Int} {i : Int} (hl0 : LyX12 S) (h3 : ¬X 156 3 = 0) (x4 : Int) : L_X12_readsSpot_80 d 156 x1 i x3 x4 X S (X, S) := by
  have h9 : L_X12_readsSpot_119 d 156 x1 i x3 x4 X S (X, S) := w_X12_readsSpot_119 hl0 (fun w => absurd w h3) (e1 := fun _ => rfl)
  exact w_X12_readsSpot_80 (J1 := X) hl0 (fun _ => h9) (fun _ _ => h9) (fun _ w => absurd w h3) (fun _ w => absurd w h3) (fun _ w => absurd w h3) (v1 := fun _ w => absurd w h3) (v2 := fun _ w => absurd w h3) (v3 := fun _ w => absurd w h3) (v4 := fun _ w => absurd w h3) (v5 := fun _ w => absurd w h3)
theorem sp_b77 {x1 x3 : Int} {i : Int} (hl0 : LyX12 S) (h3 : ¬X 156 3 = 0) : L_X12_readsSpot_77 d 156 x1 i x3 X S (X, S) := w_X12_readsSpot_77 hl0 (sp_b80 hl0 h3 0)
/-- what reading a spot leaves in the reference -/
def smP (t : Nat → Int) (n N : Nat) (R : (Int × Nat) ⊕ (Nat × Nat × (Nat → Int))) (J : Nat → Nat → Int) : Prop := (∀ k q', R = .inl (k, q') → J 156 3 = k ∧ J 156 4 = (tkS t n q' : Int) ∧ k ≠ 0) ∧ ∀ i q' A', R = .inr (i, q', A') → ((tkK t n q' = 3 ∧ i < 3) → J 156 3 = 2 ∧ J 156 4 = (tkS t n q' : Int)) ∧ (¬(tkK t n q' = 3 ∧ i < 3) → J 156 3 = 0 ∧ J 164 = up1 A' (10 * N) (i : Int) ∧ J 156 18 = (N : Int) + 1 ∧ TKm J t n q' ∧ q' ≤ n)
theorem smP_inl {k : Int} {q' : Nat} {R : (Int × Nat) ⊕ (Nat × Nat × (Nat → Int))} (hR : R = .inl (k, q')) (h3 : J 156 3 = k) (h4 : J 156 4 = (tkS t n q' : Int)) (hk : k ≠ 0) : smP t n N R J := by
  refine ⟨fun k' q'' e => ?_, fun i q'' A' e => ?_⟩
  · rw [hR] at e; cases e; exact ⟨h3, h4, hk⟩
  · rw [hR] at e; cases e
/-- arrays and counts that a spot leaves alone -/
def spK (X J : Nat → Nat → Int) : Prop := (∀ a, a ≠ 156 → a ≠ 164 → J a = X a) ∧ J 156 16 = X 156 16 ∧ J 156 17 = X 156 17
theorem rs_M (hl0 : LyX12 S) (hb : ∀ k, 0 ≤ t k ∧ t k ≤ 255) (hn : n ≤ 700) (hN : N < 12) : ∀ (f i q : Nat) (A : Nat → Int) (X : Nat → Nat → Int), f + i = 10 → i ≤ 9 → (i = 0 → tkK t n q = 2) → q ≤ n → X 157 = t → TKm X t n q → X 156 3 = 0 → X 164 = A → X 156 18 = (N : Int) → ∃ J, L_X12_readsSpot_23 d 156 (10 * (N : Int)) (i : Int) X S (J, S) ∧ rdF X J ∧ spK X J ∧ smP t n N (spL t n N f i q A) J := by
  intro f
  induction f with
  | zero => intro i q A X hf hi9; exact absurd hf (by omega)
  | succ f ih =>
    intro i q A X hf hi9 h20 hq ht hk h3 h164 h18
    have hin := tk_in t hq
    have u : spL t n N (f + 1) i q A = if tkK t n q = 2 then
      (if nfK t n q 0 11 ≠ 0 ∨ 9 ≤ i then .inl (2, q)
       else if gsV t n q = (N : Int) ∨ anyB (fun k => decide (A (10 * N + 1 + k) = gsV t n q)) i = true then .inl (4, q)
       else spL t n N f (i + 1) (tkE t n q) (up1 A (10 * N + 1 + i) (gsV t n q)))
      else if i = 0 then .inl (1, q) else .inr (i, q, A) := rfl
    have bad3 : ∀ k : Int, k ≠ 0 → ¬((up2 (up2 X 156 3 k) 156 4 (tkS t n q : Int)) 156 3 = 0) := fun k hk' => hk'
    have bo : ∀ k : Int, spK X (up2 (up2 X 156 3 k) 156 4 (tkS t n q : Int)) := fun k => ⟨fun a h1 _ => funext (fun j => by rw [up2_a _ h1, up2_a _ h1]), rfl, rfl⟩
    have e9 : X 156 9 = (tkS t n q : Int) := hk.2.2.1
    by_cases k2 : tkK t n q = 2
    · have e8 : X 156 8 = 2 := hk.2.2.2.1.trans (msK_2.mpr k2)
      rw [if_pos k2] at u
      by_cases h9 : 9 ≤ i
      · rw [if_pos (Or.inr h9)] at u
        have w1 := wr_y (d := d + 3) (k := 2) hl0 h3
        rw [e9] at w1
        refine ⟨up2 (up2 X 156 3 2) 156 4 (tkS t n q : Int), w_X12_readsSpot_23 (J1 := up2 (up2 X 156 3 2) 156 4 (tkS t n q : Int)) hl0 (fun w => absurd h3 w) (fun _ w => absurd e8 w) (fun _ _ w => absurd (show (i : Int) = 9 by omega) w) (fun _ _ _ => w1) (fun _ _ _ => w_X12_readsSpot_49 (J1 := up2 (up2 X 156 3 2) 156 4 (tkS t n q : Int)) (J2 := X) (z1 := 0) hl0 (nh_0 (d := d + 2) hl0 (bad3 2 (by decide))) (fun _ => sp_b77 hl0 (bad3 2 (by decide))) (fun w => absurd w (bad3 2 (by decide))) (fun w => absurd w (bad3 2 (by decide))) (fun w => absurd w (bad3 2 (by decide)))), rdF_bad, bo 2, smP_inl u rfl (up2_same _ _ _ _) (by decide)⟩
      · have goto : ∀ J, L_X12_readsSpot_49 d 156 (10 * (N : Int)) (i : Int) X S (J, S) → L_X12_readsSpot_23 d 156 (10 * (N : Int)) (i : Int) X S (J, S) := fun J k => w_X12_readsSpot_23 (J1 := X) hl0 (fun w => absurd h3 w) (fun _ w => absurd e8 w) (fun _ _ _ => k) (fun _ _ w => absurd w (by omega)) (fun _ _ w => absurd w (by omega))
        by_cases hnf : nfK t n q 0 11 ≠ 0
        · rw [if_pos (Or.inl hnf)] at u
          have h2 := (nf_kind (lo := 0) (hi := 11) k2).resolve_left hnf
          have c1 := nh_n (d := d + 2) (lo := 0) (hi := 11) hl0 hk h3 hnf
          rw [h2] at c1
          exact ⟨up2 (up2 X 156 3 2) 156 4 (tkS t n q : Int), goto _ (w_X12_readsSpot_49 (J1 := up2 (up2 X 156 3 2) 156 4 (tkS t n q : Int)) (J2 := X) hl0 c1 (fun _ => sp_b77 hl0 (bad3 2 (by decide))) (fun w => absurd w (bad3 2 (by decide))) (fun w => absurd w (bad3 2 (by decide))) (fun w => absurd w (bad3 2 (by decide)))), rdF_bad, bo 2, smP_inl u rfl (up2_same _ _ _ _) (by decide)⟩
        · have hnf : nfK t n q 0 11 = 0 := Decidable.not_not.mp hnf
          have hv := gsV_in (t := t) (n := n) (p := q)
          rw [if_neg (fun w => w.elim (fun w => w hnf) h9)] at u
          have c1 := nh_y (d := d + 2) (lo := 0) (hi := 11) hl0 hk h3 hnf
          have w4 := wr_y (d := d + 3) (k := 4) hl0 h3
          rw [e9] at w4
          by_cases hvN : gsV t n q = (N : Int)
          · rw [if_pos (Or.inl hvN)] at u
            exact ⟨up2 (up2 X 156 3 4) 156 4 (tkS t n q : Int), goto _ (w_X12_readsSpot_49 (J1 := X) (J2 := up2 (up2 X 156 3 4) 156 4 (tkS t n q : Int)) hl0 c1 (fun w => absurd h3 w) (fun _ w => absurd (hvN.trans h18.symm) w) (fun _ _ => w4) (fun _ _ => sp_b77 hl0 (bad3 4 (by decide)))), rdF_bad, bo 4, smP_inl u rfl (up2_same _ _ _ _) (by decide)⟩
          · have goto2 : ∀ J, L_X12_readsSpot_80 d 156 (10 * (N : Int)) (i : Int) (gsV t n q) 0 X S (J, S) → L_X12_readsSpot_23 d 156 (10 * (N : Int)) (i : Int) X S (J, S) := fun J k => goto J (w_X12_readsSpot_49 (J1 := X) (J2 := X) hl0 c1 (fun w => absurd h3 w) (fun _ _ => w_X12_readsSpot_77 hl0 k) (fun _ w => absurd (w.trans h18) hvN) (fun _ w => absurd (w.trans h18) hvN))
            have eidx : ∀ j : Nat, X 164 (10 * (N : Int) + 1 + (j : Int)).toNat = A (10 * N + 1 + j) := fun j => by rw [h164]; congr 1
            by_cases hd : anyB (fun k => decide (A (10 * N + 1 + k) = gsV t n q)) i = true
            · rw [if_pos (Or.inr hd)] at u
              have lp : ∀ (r j : Nat), j + r = i → anyB (fun k => decide (A (10 * N + 1 + k) = gsV t n q)) j = false → L_X12_readsSpot_80 d 156 (10 * (N : Int)) (i : Int) (gsV t n q) (j : Int) X S (up2 (up2 X 156 3 4) 156 4 (tkS t n q : Int), S) := by
                intro r
                induction r with
                | zero =>
                  intro j hj hno
                  obtain rfl : j = i := by omega
                  rw [hno] at hd; cases hd
                | succ r ihr =>
                  intro j hj hno
                  by_cases he : A (10 * N + 1 + j) = gsV t n q
                  · exact w_X12_readsSpot_80 (J1 := up2 (up2 X 156 3 4) 156 4 (tkS t n q : Int)) hl0 (fun w => absurd w (by omega)) (fun _ w => absurd h3 w) (fun _ _ w => absurd ((eidx j).trans he) w) (fun _ _ _ => w4) (fun _ _ _ => sp_b80 hl0 (bad3 4 (by decide)) _) (v3 := fun _ _ => by omega)
                  · exact w_X12_readsSpot_80 (J1 := X) hl0 (fun w => absurd w (by omega)) (fun _ w => absurd h3 w) (fun _ _ _ => ihr (j + 1) (by omega) (anyB_succ hno (decide_eq_false he))) (fun _ _ w => absurd ((eidx j).symm.trans w) he) (fun _ _ w => absurd ((eidx j).symm.trans w) he) (v3 := fun _ _ => by omega)
              exact ⟨_, goto2 _ (lp i 0 (by omega) rfl), rdF_bad, bo 4, smP_inl u rfl (up2_same _ _ _ _) (by decide)⟩
            · rw [if_neg (fun w => w.elim hvN hd)] at u
              have eix : (10 * (N : Int) + 1 + (i : Int)).toNat = 10 * N + 1 + i := by omega
              obtain ⟨Y, hY⟩ : ∃ Y, Y = up2 X 164 (10 * N + 1 + i) (gsV t n q) := ⟨_, rfl⟩
              have ya : ∀ a, a ≠ 164 → Y a = X a := fun a ha => by rw [hY]; exact funext (fun k => up2_a _ ha)
              have y164 : Y 164 = up1 A (10 * N + 1 + i) (gsV t n q) := by rw [hY, up2_up1, up1_same, h164]
              have hkY : TKm Y t n q := by unfold TKm; rw [ya 156 (by decide)]; exact hk
              obtain ⟨b1, b2, b3, b4, b5⟩ := rdF_go (d := d + 2) hl0 (by rw [ya 157 (by decide)]; exact ht) hb hkY hn hq
              obtain ⟨J, q1, q2, q3, q4⟩ := ih (i + 1) (tkE t n q) (up1 A (10 * N + 1 + i) (gsV t n q)) (gsI Y) (by omega) (by omega) (fun e => by omega) hin.2.2.2 (by rw [b4 157 (by decide), ya 157 (by decide)]; exact ht) b2 (by rw [b5 3 (by unfold gsK; omega), ya 156 (by decide)]; exact h3) (by rw [b4 164 (by decide)]; exact y164) (by rw [b5 18 (by unfold gsK; omega), ya 156 (by decide)]; exact h18)
              rw [← u] at q4
              have go9 : L_X12_readsSpot_119 d 156 (10 * (N : Int)) (i : Int) (gsV t n q) (i : Int) X S (J, S) := by
                refine w_X12_readsSpot_119 hl0 (fun _ => w_X12_readsSpot_127 (J1 := gsI Y) hl0 ?_ q1 (v3 := by omega)) (e1 := fun w => absurd h3 w)
                rw [eix, ← hY]
                exact b1
              have lp : ∀ (r j : Nat), j + r = i → L_X12_readsSpot_80 d 156 (10 * (N : Int)) (i : Int) (gsV t n q) (j : Int) X S (J, S) := by
                intro r
                induction r with
                | zero =>
                  intro j hj
                  obtain rfl : j = i := by omega
                  exact w_X12_readsSpot_80 (J1 := X) hl0 (fun _ => go9) (fun w => absurd w (by omega)) (fun w => absurd w (by omega)) (fun w => absurd w (by omega)) (fun w => absurd w (by omega)) (v3 := fun w => absurd w (by omega))
                | succ r ihr =>
                  intro j hj
                  have he : A (10 * N + 1 + j) ≠ gsV t n q := fun w => hd (anyB_yes (show j < i by omega) (decide_eq_true w))
                  exact w_X12_readsSpot_80 (J1 := X) hl0 (fun w => absurd w (by omega)) (fun _ w => absurd h3 w) (fun _ _ _ => ihr (j + 1) (by omega)) (fun _ _ w => absurd ((eidx j).symm.trans w) he) (fun _ _ w => absurd ((eidx j).symm.trans w) he) (v3 := fun _ _ => by omega)
              refine ⟨J, goto2 _ (lp i 0 (by omega)), rdF_trans (rdF_trans ⟨fun a _ _ _ h4 _ => ya a h4, fun k _ => by rw [ya 156 (by decide)], erR_eq (by rw [ya 156 (by decide)]) (by rw [ya 156 (by decide)])⟩ b3) q2, ⟨fun a h1 h2 => by rw [q3.1 a h1 h2, b4 a h1, ya a h2], by rw [q3.2.1, b5 16 (by unfold gsK; omega), ya 156 (by decide)], by rw [q3.2.2, b5 17 (by unfold gsK; omega), ya 156 (by decide)]⟩, q4⟩
    · have e8 : X 156 8 ≠ 2 := fun w => k2 (msK_2.mp (hk.2.2.2.1.symm.trans w))
      have i0 : i ≠ 0 := fun e => k2 (h20 e)
      rw [if_neg k2, if_neg i0] at u
      have e10 : (10 * (N : Int)).toNat = 10 * N := by omega
      have goto : ∀ J, L_X12_readsSpot_148 d 156 (10 * (N : Int)) (i : Int) X S (J, S) → L_X12_readsSpot_23 d 156 (10 * (N : Int)) (i : Int) X S (J, S) := fun J k => w_X12_readsSpot_23 (J1 := X) hl0 (fun w => absurd h3 w) (fun _ _ => k) (fun _ w => absurd w e8) (fun _ w => absurd w e8) (fun _ w => absurd w e8)
      by_cases hc : tkK t n q = 3 ∧ i < 3
      · have x3 : X 156 8 = 3 := hk.2.2.2.1.trans (msK_3.mpr hc.1)
        have w2 := wr_y (d := d + 3) (k := 2) hl0 h3
        rw [e9] at w2
        have hJ : L_X12_readsSpot_173 d 156 (10 * (N : Int)) (i : Int) (up2 (up2 X 156 3 2) 156 4 (tkS t n q : Int)) S (up2 (up2 (up2 X 156 3 2) 156 4 (tkS t n q : Int)) 164 (10 * N) (i : Int), S) := w_X12_readsSpot_173 hl0 (e1 := fun _ => by rw [e10]) (e2 := fun w => absurd w (bad3 2 (by decide))) (v1 := by omega) (v2 := fun w => absurd w (bad3 2 (by decide)))
        refine ⟨up2 (up2 (up2 X 156 3 2) 156 4 (tkS t n q : Int)) 164 (10 * N) (i : Int), goto _ (w_X12_readsSpot_148 (J1 := up2 (up2 X 156 3 2) 156 4 (tkS t n q : Int)) hl0 (fun w => absurd h3 w) (fun _ w => absurd x3 w) (fun _ _ w => absurd w (by omega)) (fun _ _ _ => w2) (fun _ _ _ => hJ)), rdF_trans rdF_bad ⟨fun a _ _ _ h4 _ => funext (fun k => up2_a _ h4), fun k _ => up2_a _ (by decide), erR_eq (up2_a _ (by decide)) (up2_a _ (by decide))⟩, ⟨fun a h1 h2 => by rw [show up2 (up2 (up2 X 156 3 2) 156 4 (tkS t n q : Int)) 164 (10 * N) (i : Int) a = (up2 (up2 X 156 3 2) 156 4 (tkS t n q : Int)) a from funext (fun k => up2_a _ h2)]; exact (bo 2).1 a h1 h2, by rw [up2_a _ (by decide)]; rfl, by rw [up2_a _ (by decide)]; rfl⟩, fun k q' e => ?_, fun i' q' A' e => ?_⟩
        · rw [u] at e; cases e
        · rw [u] at e
          cases e
          exact ⟨fun _ => ⟨rfl, rfl⟩, fun w => absurd hc w⟩
      · have hJ : L_X12_readsSpot_173 d 156 (10 * (N : Int)) (i : Int) X S (up2 (up2 X 164 (10 * N) (i : Int)) 156 18 ((N : Int) + 1), S) := w_X12_readsSpot_173 hl0 (e1 := fun w => absurd h3 w) (e2 := fun _ => by rw [e10, h18]) (v1 := by omega) (v2 := fun _ => by rw [h18]; omega)
        refine ⟨up2 (up2 X 164 (10 * N) (i : Int)) 156 18 ((N : Int) + 1), goto _ (w_X12_readsSpot_148 (J1 := X) hl0 (fun w => absurd h3 w) (fun _ _ => hJ) (fun _ _ _ => hJ) (fun _ w1 w2 => absurd ⟨msK_3.mp (hk.2.2.2.1.symm.trans w1), by omega⟩ hc) (fun _ w1 w2 => absurd ⟨msK_3.mp (hk.2.2.2.1.symm.trans w1), by omega⟩ hc)), ⟨fun a h1 _ _ h4 _ => funext (fun k => by rw [up2_a _ h1, up2_a _ h4]), fun k hk' => by unfold rdK at hk'; rw [up2_k _ (by omega), up2_a _ (by decide)], erR_eq (by rw [up2_k _ (by decide), up2_a _ (by decide)]) (by rw [up2_k _ (by decide), up2_a _ (by decide)])⟩, ⟨fun a h1 h2 => funext (fun k => by rw [up2_a _ h1, up2_a _ h2]), by rw [up2_k _ (by decide), up2_a _ (by decide)], by rw [up2_k _ (by decide), up2_a _ (by decide)]⟩, fun k q' e => ?_, fun i' q' A' e => ?_⟩
        · rw [u] at e; cases e
        · rw [u] at e
          cases e
          refine ⟨fun w => absurd w hc, fun _ => ⟨h3, ?_, rfl, hk, hq⟩⟩
          rw [← h164]
          show up2 X 164 (10 * N) (i : Int) 164 = _
          rw [up2_up1, up1_same]
end
end
