/-! ===== rows are found, and cases told: the class's ===== -/
noncomputable section
theorem lsC_cg {f f' : Nat → Int} {h : Nat} {s st : Int} (hf : ∀ k, k < h → f k = f' k) (hs : 0 ≤ s ∧ s < (h : Int)) (ht : 0 ≤ st ∧ st ≤ (h : Int)) : lsC f s st (h : Int) = lsC f' s st (h : Int) := by
  unfold lsC
  rw [Int.toNat_natCast]
  refine lessR_congr (n := h) (fun k hk => ?_) hf h 0 (by omega)
  have := atI_in hs ht k
  exact hf _ (by omega)
theorem llC_cg {f f' : Nat → Int} {h : Nat} (h1 : 1 ≤ h) (hf : ∀ k, k < h → f k = f' k) : llC f (h : Int) = llC f' (h : Int) := by
  unfold llC
  rw [Int.toNat_natCast]
  refine allB_congr (fun s hs => ?_)
  unfold llP
  rw [lsC_cg hf (by omega) (by omega), lsC_cg hf (by omega) (by omega)]
theorem dsI_cg {f f' : Nat → Int} : ∀ {n : Nat}, (∀ k, k < n → f k = f' k) → dsI f n = dsI f' n
  | 0, _ => rfl
  | n + 1, h => by
    unfold dsI
    rw [dsI_cg (n := n) (fun k hk => h k (by omega)), h n (by omega)]
theorem dg_ds {f : Nat → Int} (hf : ∀ k, 0 ≤ f k ∧ f k ≤ 9) {m : Nat} : ∀ j : Nat, dgI (dsI f (m + j)) j = dsI f m
  | 0 => rfl
  | j + 1 => by
    show dgI (dsI f (m + (j + 1))) j / 10 = dsI f m
    rw [show m + (j + 1) = m + 1 + j by omega, dg_ds hf (m := m + 1) j]
    have := hf m
    show (dsI f m * 10 + f m) / 10 = dsI f m
    omega
theorem td_ds {f : Nat → Int} (hf : ∀ k, 0 ≤ f k ∧ f k ≤ 9) {n j : Nat} (hj : j < n) : dgI (dsI f n) (n - 1 - j) % 10 = f j := by
  have h := dg_ds hf (m := j + 1) (n - 1 - j)
  rw [show j + 1 + (n - 1 - j) = n by omega] at h
  rw [h]
  have := hf j
  show (dsI f j * 10 + f j) % 10 = f j
  omega
section
variable {d : Nat} {I : Nat → Nat → Int} {S : PS} {T h : Nat}
/-- rows of a hub as they are kept -/
def csR (I : Nat → Nat → Int) (h : Nat) : Prop := ∀ c, c < 3 ^ h → llK h c = true → I 122 (198 * (h - 5) + cL h c) = dsI (rw3 c h) h
def csO (I : Nat → Nat → Int) (h : Nat) : Prop := I 123 (h - 5) = 0 ∨ (I 123 (h - 5) = (cL h (3 ^ h) : Int) ∧ csR I h)
theorem p3_le {h : Nat} (hh : h = 5 ∨ h = 6 ∨ h = 7) : 3 ^ h ≤ 2187 := by rcases hh with rfl | rfl | rfl <;> decide
theorem fr_rows (hl0 : LyX1 S) (hh : h = 5 ∨ h = 6 ∨ h = 7) : ∃ J, Ca (d + 3) mX1_findRows [vR (some (12, 0, 121)), vI (h : Int)] (I, S) (.inl none) (J, S) ∧ (∀ a, a ≠ 122 → a ≠ 123 → a ≠ 124 → J a = I a) ∧ J 123 = up1 (I 123) (h - 5) (cL h (3 ^ h) : Int) ∧ csR J h ∧ ∀ i, ¬(198 * (h - 5) ≤ i ∧ i < 198 * (h - 5) + 198) → J 122 i = I 122 i := by
  have hp3 := p3_le hh
  have l34 : ∀ (t c : Nat) (X : Nat → Nat → Int), c + t = 3 ^ h → (∀ a, a ≠ 122 → a ≠ 124 → X a = I a) → (∀ j, j < h → X 124 j = rw3 c h j) → (∀ c', c' < c → llK h c' = true → X 122 (198 * (h - 5) + cL h c') = dsI (rw3 c' h) h) → (∀ i, ¬(198 * (h - 5) ≤ i ∧ i < 198 * (h - 5) + 198) → X 122 i = I 122 i) →
      ∃ J, L_X1_findRows_34 d 121 (h : Int) (cL h c : Int) ((3 ^ h : Nat) : Int) (c : Int) X S (J, S) ∧ (∀ a, a ≠ 122 → a ≠ 123 → a ≠ 124 → J a = I a) ∧ J 123 = up1 (I 123) (h - 5) (cL h (3 ^ h) : Int) ∧ csR J h ∧ ∀ i, ¬(198 * (h - 5) ≤ i ∧ i < 198 * (h - 5) + 198) → J 122 i = I 122 i := by
    intro t
    induction t with
    | zero =>
      intro c X hc hX hr hs ho
      obtain rfl : c = 3 ^ h := by omega
      have e5 : ((h : Int) - 5).toNat = h - 5 := by omega
      refine ⟨up2 X 123 (h - 5) (cL h (3 ^ h) : Int), w_X1_findRows_34 (J1 := X) (J2 := X) (J3 := X) hl0 (fun q => absurd q (by omega)) (fun q => absurd q (by omega)) (fun q => absurd q (by omega)) (fun q => absurd q (by omega)) (fun q => absurd q (by omega)) (fun q => absurd q (by omega)) (e1 := fun _ => by rw [e5]) (v2 := fun _ => by omega) (v3 := fun q => absurd q (by omega)) (v9 := fun q => absurd q (by omega)) (v10 := fun q => absurd q (by omega)) (v11 := fun q => absurd q (by omega)), fun a h1 h2 h3 => by rw [show up2 X 123 (h - 5) (cL h (3 ^ h) : Int) a = X a from funext (fun j => up2_a _ h2)]; exact hX a h1 h3, ?_, fun c' hc' hl => by rw [up2_a _ (by decide)]; exact hs c' hc' hl, fun i hi => by rw [up2_a _ (by decide)]; exact ho i hi⟩
      rw [up2_up1, up1_same, hX 123 (by decide) (by decide)]
    | succ t ih =>
      intro c X hc hX hr hs ho
      have hc3 : c < 3 ^ h := by omega
      have ell : llC (X 124) (h : Int) = llK h c := llC_cg (by omega) hr
      have hnext : ∀ Y : Nat → Nat → Int, Y 124 = X 124 → ∃ J, Ca (d + 2) mX1_nextRow [vR (some (12, 0, 121)), vI (h : Int)] (Y, S) (.inl none) (J, S) ∧ (∀ a, a ≠ 124 → J a = Y a) ∧ ∀ j, j < h → J 124 j = rw3 (c + 1) h j := fun Y hY => by
        obtain ⟨J, q1, q2, q3, _⟩ := nr_C (d := d + 2) (S := S) (x1 := (h : Int)) hl0 h c Y (by omega) (fun j hj => by rw [hY]; exact hr j hj)
        exact ⟨J, w_X1_nextRow_0 hl0 q1 (v1 := by omega), q2, q3⟩
      have hst : cL h (c + 1) = cL h c + (if llK h c = true then 1 else 0) := rfl
      have hm := cL_mono h (show c + 1 ≤ 3 ^ h from hc3)
      have hle := cL_le hh
      by_cases hl : llK h c = true
      · have hlt := cL_lt hh hc3 hl
        rw [if_pos hl] at hst
        have eix : ((((h : Int) - 5) * 198) + (cL h c : Int)).toNat = 198 * (h - 5) + cL h c := by omega
        have eds : dsI (X 124) ((h : Int)).toNat = dsI (rw3 c h) h := by rw [Int.toNat_natCast]; exact dsI_cg hr
        obtain ⟨J1, n1, n2, n3⟩ := hnext (up2 X 122 (198 * (h - 5) + cL h c) (dsI (rw3 c h) h)) (funext (fun j => up2_a _ (by decide)))
        obtain ⟨J, q1, q2⟩ := ih (c + 1) J1 (by omega) (fun a h1 h2 => by rw [n2 a h2, show up2 X 122 (198 * (h - 5) + cL h c) (dsI (rw3 c h) h) a = X a from funext (fun j => up2_a _ h1)]; exact hX a h1 h2) n3 (fun c' hc' hl' => by
          rw [n2 122 (by decide)]
          by_cases e : c' = c
          · rw [e, up2_same]
          · have := cL_mono h (show c' + 1 ≤ c by omega)
            have h4 : cL h (c' + 1) = cL h c' + (if llK h c' = true then 1 else 0) := rfl
            rw [if_pos hl'] at h4
            rw [up2_k _ (by omega)]
            exact hs c' (by omega) hl') (fun i hi => by rw [n2 122 (by decide), up2_k _ (by omega)]; exact ho i hi)
        refine ⟨J, w_X1_findRows_34 (J1 := X) (J2 := X) (J3 := J1) hl0 (fun _ q => absurd (ell.trans hl) q) (fun _ q => absurd (ell.trans hl) q) (fun _ _ q => absurd q (by omega)) (fun _ _ q => absurd q (by omega)) (fun _ _ _ => ?_) (fun _ _ _ => ?_) (e1 := fun q => absurd q (by omega)) (v2 := fun q => absurd q (by omega)) (v3 := fun _ => by omega) (v9 := fun _ _ _ => by omega) (v10 := fun _ _ _ k hk => by rw [hr k (by omega)]; have := rw3_in c h k; omega) (v11 := fun _ _ _ => by omega), q2⟩
        · rw [eix, eds]; exact n1
        · rw [hst] at q1; exact q1
      · rw [if_neg hl, Nat.add_zero] at hst
        obtain ⟨J1, n1, n2, n3⟩ := hnext X rfl
        obtain ⟨J, q1, q2⟩ := ih (c + 1) J1 (by omega) (fun a h1 h2 => by rw [n2 a h2]; exact hX a h1 h2) n3 (fun c' hc' hl' => by
          rw [n2 122 (by decide)]
          by_cases e : c' = c
          · rw [e] at hl'; exact absurd hl' hl
          · exact hs c' (by omega) hl') (fun i hi => by rw [n2 122 (by decide)]; exact ho i hi)
        refine ⟨J, w_X1_findRows_34 (J1 := J1) (J2 := X) (J3 := X) hl0 (fun _ _ => n1) (fun _ _ => ?_) (fun _ q => absurd (ell.symm.trans q) hl) (fun _ q => absurd (ell.symm.trans q) hl) (fun _ q => absurd (ell.symm.trans q) hl) (fun _ q => absurd (ell.symm.trans q) hl) (e1 := fun q => absurd q (by omega)) (v2 := fun q => absurd q (by omega)) (v3 := fun _ => by omega) (v9 := fun _ q => absurd (ell.symm.trans q) hl) (v10 := fun _ q => absurd (ell.symm.trans q) hl) (v11 := fun _ q => absurd (ell.symm.trans q) hl), q2⟩
        rw [hst] at q1; exact q1
  have l7 : ∀ (t i : Nat) (F : Nat → Int), i + t = h → (∀ j, j < i → F j = 5) → ∃ J, L_X1_findRows_7 d 121 (h : Int) 0 ((3 ^ i : Nat) : Int) (i : Int) (up1 I 124 F) S (J, S) ∧ (∀ a, a ≠ 122 → a ≠ 123 → a ≠ 124 → J a = I a) ∧ J 123 = up1 (I 123) (h - 5) (cL h (3 ^ h) : Int) ∧ csR J h ∧ ∀ i, ¬(198 * (h - 5) ≤ i ∧ i < 198 * (h - 5) + 198) → J 122 i = I 122 i := by
    intro t
    induction t with
    | zero =>
      intro i F hi hF
      obtain rfl : i = h := by omega
      obtain ⟨J, q1, q2⟩ := l34 (3 ^ i) 0 (up1 I 124 F) (by omega) (fun a _ h2 => up1_o I h2) (fun j hj => by
        rw [up1_same, hF j hj]
        unfold rw3
        have : dg3 0 (i - 1 - j) = 0 := by rw [dg3_T]; unfold dgT; rw [Nat.zero_div]
        rw [this]; rfl) (fun c' hc' => absurd hc' (by omega)) (fun k _ => by rw [up1_o I (by decide)])
      exact ⟨J, w_X1_findRows_7 hl0 (fun _ => q1) (fun q => absurd q (by omega)) (v1 := fun q => absurd q (by omega)), q2⟩
    | succ t ih =>
      intro i F hi hF
      obtain ⟨J, q1, q2⟩ := ih (i + 1) (up1 F i 5) (by omega) (fun j hj => by
        by_cases e : j = i
        · rw [e, up1_same]
        · rw [up1_o F e]; exact hF j (by omega))
      have hp : 3 ^ i ≤ 2187 := Nat.le_trans (Nat.pow_le_pow_right (n := 3) (by decide) (show i ≤ 7 by omega)) (by decide)
      refine ⟨J, w_X1_findRows_7 hl0 (fun q => absurd q (by omega)) (fun _ => ?_) (v1 := fun _ => by omega) (v2 := fun _ => by generalize 3 ^ i = P at hp ⊢; omega), q2⟩
      rw [up2_up1, up1_same, up1_up1, Int.toNat_natCast, show ((3 ^ i : Nat) : Int) * 3 = ((3 ^ (i + 1) : Nat) : Int) by rw [Nat.pow_succ]; omega]
      exact q1
  obtain ⟨J, q1, q2⟩ := l7 h 0 (I 124) (by omega) (fun j hj => absurd hj (by omega))
  rw [up1_self] at q1
  exact ⟨J, w_X1_findRows_0 hl0 q1, q2⟩
end
end
