/-! ===== a plan, the class's, whole ===== -/
noncomputable section
section
variable {d : Nat} {I : Nat → Nat → Int} {S : PS} {T m n : Nat} {adj : Nat → Nat → Bool} {t : Nat → Int}
theorem stC_of {J : Nat → Nat → Int} (h : stC I) (e : ∀ a, a < 30 → J a = I a) : stC J := fun k hk j hj => by
  have : sNo k + 1 < 30 := by
    have q : ∀ k : Fin 13, sNo k.val + 1 < 30 := by decide
    exact q ⟨k, hk⟩
  rw [e _ this]
  exact h k hk j hj
theorem isStr_of {J : Nat → Nat → Int} {n a : Nat} (h : isStr I S n a) (e1 : J a = I a) (e2 : J (a + 1) = I (a + 1)) : isStr J S n a := by
  unfold isStr
  rw [e1, e2]
  exact h
theorem strs_of {J : Nat → Nat → Int} (h : strs I S) (e : ∀ a, a < 30 → J a = I a) : strs J S := by
  obtain ⟨s0, s1, s2, s3, s4, s5, s6, s7, s8, s9, s10, s11, s12⟩ := h
  exact ⟨isStr_of s0 (e _ (by decide)) (e _ (by decide)), isStr_of s1 (e _ (by decide)) (e _ (by decide)), isStr_of s2 (e _ (by decide)) (e _ (by decide)), isStr_of s3 (e _ (by decide)) (e _ (by decide)), isStr_of s4 (e _ (by decide)) (e _ (by decide)), isStr_of s5 (e _ (by decide)) (e _ (by decide)), isStr_of s6 (e _ (by decide)) (e _ (by decide)), isStr_of s7 (e _ (by decide)) (e _ (by decide)), isStr_of s8 (e _ (by decide)) (e _ (by decide)), isStr_of s9 (e _ (by decide)) (e _ (by decide)), isStr_of s10 (e _ (by decide)) (e _ (by decide)), isStr_of s11 (e _ (by decide)) (e _ (by decide)), isStr_of s12 (e _ (by decide)) (e _ (by decide))⟩
theorem rl_C {E0 : Int} (hT : T = 34 ∨ T = 77) (hl0 : LyX4 S) (hl1 : LyX10 S) (hl2 : LyX0 S T) (hl3 : LyX2 S 127) (hA : cAd I T m adj) (hx : txR (I 33) t) (hst : stC I) (hss : strs I S) (hn : n ≤ 700) (hE : 0 ≤ E0 ∧ E0 + 700 ≤ 1000000) : ∀ (f p i : Nat) (X : Nat → Nat → Int) (x : PT), p ≤ n → n - p < f → i ≤ p → (∀ a, ¬plW a → a ≠ 32 → X a = I a) → TKc X t n p → clR X m x → ptO m x → x.2.2.2.2.1 ≤ E0 + (p : Int) → X 147 8 = -1 → X 147 7 = (i : Int) → X 147 6 = 1 → ∃ J, L_X4_run_40 d 147 32 T 127 (i : Int) X S (J, S) ∧ rnP I J m (plR t n adj m f p x (i : Int)) := by
  intro f
  induction f with
  | zero => intro p i X x hp hf; exact absurd hf (by omega)
  | succ f ih =>
    intro p i X x hp hf hi hF hk hc ho hev h8 h7 h6
    have ev0 : 0 ≤ x.2.2.2.2.1 := by
      have := ho.2.2.2.1 0 (by have := ho.2.1; omega)
      omega
    have hev1 : 0 ≤ x.2.2.2.2.1 ∧ x.2.2.2.2.1 ≤ 1000000 := by omega
    have u : plR t n adj m (f + 1) p x (i : Int) = if tkK t n p = 0 then (-1, x, (i : Int)) else match plN t n adj m p x with
      | .inl b => (b, x, (i : Int))
      | .inr (p', x') => plR t n adj m f p' x' ((i : Int) + 1) := by
      show (if tkK t n p = 0 then _ else _) = _
      split
      · rfl
      · cases plN t n adj m p x <;> rfl
    rw [u]
    by_cases k0 : tkK t n p = 0
    · rw [if_pos k0]
      exact rx_C hl0 hl1 hl2 hl3 hF hc ho hev1 h8 h7 h6 (Or.inr (hk.2.2.2.1.trans k0))
    · rw [if_neg k0]
      have x3 : X 32 3 ≠ 0 := by rw [hk.2.2.2.1]; exact k0
      have hs30 : ∀ a, a < 30 → X a = I a := fun a ha => hF a (by unfold plW; omega) (by omega)
      have hAX : cAd X T m adj := by
        unfold cAd
        rw [hF T (by unfold plW; omega) (by omega), hF (T + 5) (by unfold plW; omega) (by omega)]
        exact hA
      have hxX : txR (X 33) t := by rw [hF 33 (by unfold plW; omega) (by decide)]; exact hx
      obtain ⟨v, J4, s1, s2, s3⟩ := ts_C (d := d + 1) (x := x) (p := p) hT hl0 hl1 hl2 hAX hxX (stC_of hst hs30) (strs_of hss hs30) hk hn hp hc ho hev1
      have hF4 : ∀ a, ¬plW a → a ≠ 32 → J4 a = I a := fun a h1 h2 => by rw [s2.1 a h1 h2]; exact hF a h1 h2
      cases hN : plN t n adj m p x with
      | inl b =>
        obtain ⟨e1, e2⟩ := s3.1 b hN
        have hb := plN_bge hN
        have hcY : clR (up2 J4 147 8 b) m x := ⟨e2.1, e2.2.1, e2.2.2.1, e2.2.2.2.1, e2.2.2.2.2.1, e2.2.2.2.2.2.1, e2.2.2.2.2.2.2⟩
        obtain ⟨J, q1, q2⟩ := rx_C (d := d) (I := I) (X := up2 J4 147 8 b) (i := (i : Int) + 1) (b := b) (st := (i : Int)) hl0 hl1 hl2 hl3 (fun a h1 h2 => by rw [← hF4 a h1 h2]; exact funext (fun k => up2_a _ (by unfold plW at h1; omega))) hcY ho hev1 (up2_same _ _ _ _) (by rw [up2_k _ (by decide), s2.2 7 (by decide) (by decide) (by decide) (by decide)]; exact h7) (by rw [up2_k _ (by decide), s2.2 6 (by decide) (by decide) (by decide) (by decide)]; exact h6) (Or.inl hb)
        refine ⟨J, w_X4_run_40 (J1 := J) (J2 := J) (J3 := J) (J4 := J4) (J5 := J) (z4 := v) hl0 hl1 hl2 hl3 (fun q => absurd q (by omega)) (fun _ q => absurd q x3) (fun _ _ q => absurd h8 q) (fun _ _ _ => s1) (fun _ _ _ _ => by rw [e1]; exact q1) (fun _ _ _ q => absurd (e1.symm.trans q) hb) (fun _ _ _ q => absurd (e1.symm.trans q) hb) (e1 := fun q => absurd q (by omega)) (e2 := fun _ q => absurd q x3) (e3 := fun _ _ q => absurd h8 q) (v1 := fun _ _ _ _ => by omega) (v2 := fun _ _ _ q => absurd (e1.symm.trans q) hb) (v3 := fun _ _ _ _ => by omega), q2⟩
      | inr r =>
        obtain ⟨p', x'⟩ := r
        obtain ⟨e1, e2, e3, e4⟩ := s3.2 p' x' hN
        obtain ⟨n1, n2, w, s, c, n3⟩ := plN_pos hp hN
        obtain ⟨o1, o2, o3⟩ := plF_ok ho n3
        obtain ⟨Y, hY⟩ : ∃ Y, Y = up2 (up2 J4 147 8 v) 147 7 (J4 147 7 + 1) := ⟨_, rfl⟩
        have j7 : J4 147 7 = (i : Int) := by rw [s2.2 7 (by decide) (by decide) (by decide) (by decide)]; exact h7
        have yF : ∀ a, ¬plW a → a ≠ 32 → Y a = I a := fun a h1 h2 => by
          rw [hY, ← hF4 a h1 h2]
          exact funext (fun k => by rw [up2_a _ (by unfold plW at h1; omega), up2_a _ (by unfold plW at h1; omega)])
        have y32 : Y 32 = J4 32 := by rw [hY]; rfl
        have hcY : clR Y m x' := by rw [hY]; exact ⟨e2.1, e2.2.1, e2.2.2.1, e2.2.2.2.1, e2.2.2.2.2.1, e2.2.2.2.2.2.1, e2.2.2.2.2.2.2⟩
        obtain ⟨a1, a2, a3⟩ := ad_C (d := d + 7) (J := Y) (q := p') hl1 (by rw [yF 33 (by unfold plW; omega) (by decide)]; exact hx) (by rw [y32]; exact e3) (by rw [y32]; exact e4) hn n2
        obtain ⟨J, q1, q2⟩ := ih p' (i + 1) (adI Y) x' n2 (by omega) (by omega) (fun a h1 h2 => by rw [a3 a h2]; exact yF a h1 h2) a2 (clR_of hcY a3) o1 (by omega) (by rw [a3 147 (by decide), hY, up2_k _ (by decide), up2_same]; exact e1) (by rw [a3 147 (by decide), hY, up2_same, j7]; rfl) (by rw [a3 147 (by decide), hY, up2_k _ (by decide), up2_k _ (by decide), s2.2 6 (by decide) (by decide) (by decide) (by decide)]; exact h6)
        refine ⟨J, w_X4_run_40 (J1 := J) (J2 := J) (J3 := J) (J4 := J4) (J5 := adI Y) (z4 := v) hl0 hl1 hl2 hl3 (fun q => absurd q (by omega)) (fun _ q => absurd q x3) (fun _ _ q => absurd h8 q) (fun _ _ _ => s1) (fun _ _ _ q => absurd e1 q) (fun _ _ _ _ => by rw [← hY]; exact a1) (fun _ _ _ _ => q1) (e1 := fun q => absurd q (by omega)) (e2 := fun _ q => absurd q x3) (e3 := fun _ _ q => absurd h8 q) (v1 := fun _ _ _ q => absurd e1 q) (v2 := fun _ _ _ _ => by rw [j7]; omega) (v3 := fun _ _ _ _ => by omega), q2⟩
/-- the plan's state as it begins -/
def pl0 (g : Nat → Int) (ev la : Int) : PT := (g, 1, fun _ => g, fun _ => ev, ev + 1, la, 1)
theorem pl0_ok {g : Nat → Int} {ev la : Int} (h : rOk g m) (he : 0 ≤ ev) : ptO m (pl0 g ev la) := ⟨h, ⟨Nat.le_refl 1, by show 1 ≤ 8; decide⟩, fun _ _ => h, fun _ _ => ⟨he, by show ev < ev + 1; omega⟩, by show (0 : Int) ≤ 1 ∧ (1 : Int) ≤ 8; decide⟩
theorem run_C {g : Nat → Int} {ev : Int} (hT : T = 34 ∨ T = 77) (hl0 : LyX4 S) (hl1 : LyX10 S) (hl2 : LyX0 S T) (hl3 : LyX2 S 127) (hA : cAd I T m adj) (hx : txR (I 33) t) (hst : stC I) (hss : strs I S) (hn : n ≤ 700) (hp : pnt (I 128) g m) (h3 : I 147 3 = 0) (h4 : I 147 4 = ev) (hev : 0 ≤ ev ∧ ev ≤ 900000) (h1 : I 32 1 = (n : Int)) (h2 : I 32 2 = 0) : ∃ J, Ca (d + 9) mX4_run [vR (some (15, 0, 147)), vR (some (20, 0, 32)), vR (some (11, 0, T)), vR (some (13, 0, 127))] (I, S) (.inl none) (J, S) ∧ rnP I J m (plR t n adj m 701 0 (pl0 g ev (I 147 5)) 0) := by
  have c3 : (cpyI I (127 + 1) 0 (148 + 1) 0 4) 147 3 = 0 := h3
  have c4 : (cpyI I (127 + 1) 0 (148 + 1) 0 4) 147 4 = ev := h4
  obtain ⟨X, hX⟩ : ∃ X, X = up2 (up2 (up2 (up2 (cpyI (up2 (up2 (up2 (up2 (cpyI I (127 + 1) 0 (148 + 1) 0 4) 147 6 1) 147 7 0) 147 8 (-1)) 147 10 0) 149 0 150 ((((0 : Int)) * 4).toNat) 4) 151 (((0 : Int)).toNat) ev) 147 4 (ev + 1)) 147 3 ((0 : Int) + 1)) 147 10 (p_max (0) ((0 : Int) + 1)) := ⟨_, rfl⟩
  have xF : ∀ a, ¬plW a → X a = I a := fun a h1 => by
    unfold plW at h1
    rw [hX]
    funext k
    rw [up2_a _ (by omega), up2_a _ (by omega), up2_a _ (by omega), up2_a _ (by omega)]
    unfold cpyI
    rw [up1_o _ (by omega), up2_a _ (by omega), up2_a _ (by omega), up2_a _ (by omega), up2_a _ (by omega), up1_o _ (by omega)]
  have x149 : ∀ c, c < 4 → X 149 c = I 128 c := fun c hc => by
    rw [hX]
    show (if 0 ≤ c ∧ c < 0 + 4 then I 128 (0 + (c - 0)) else I 149 c) = I 128 c
    rw [if_pos (by omega)]
    congr 1
    omega
  have x150 : ∀ c, c < 4 → X 150 (4 * 0 + c) = I 128 c := fun c hc => by
    rw [hX]
    show (if 0 ≤ 4 * 0 + c ∧ 4 * 0 + c < 0 + 4 then (if 0 ≤ 0 + (4 * 0 + c - 0) ∧ 0 + (4 * 0 + c - 0) < 0 + 4 then I 128 (0 + (0 + (4 * 0 + c - 0) - 0)) else I 149 (0 + (4 * 0 + c - 0))) else I 150 (4 * 0 + c)) = I 128 c
    rw [if_pos (by omega), if_pos (by omega)]
    congr 1
    omega
  have hmax : p_max 0 ((0 : Int) + 1) = 1 := by decide
  have hc : clR X m (pl0 g ev (I 147 5)) := by
    refine ⟨pnt_4 hp x149, by rw [hX]; rfl, fun j hj => ?_, fun j hj => ?_, by rw [hX]; rfl, by rw [hX]; rfl, by rw [hX, up2_same]; exact hmax⟩
    · have hj : j < 1 := hj
      obtain rfl : j = 0 := by omega
      exact pnt_4 hp x150
    · have hj : j < 1 := hj
      obtain rfl : j = 0 := by omega
      rw [hX]; rfl
  obtain ⟨a1, a2, a3⟩ := ad_C (d := d + 7) (J := X) (q := 0) hl1 (by rw [xF 33 (by unfold plW; omega)]; exact hx) (by rw [xF 32 (by unfold plW; omega)]; exact h1) (by rw [xF 32 (by unfold plW; omega)]; exact h2) hn (Nat.zero_le n)
  obtain ⟨J, q1, q2⟩ := rl_C (d := d) (I := I) (E0 := ev + 1) hT hl0 hl1 hl2 hl3 hA hx hst hss hn (by omega) 701 0 0 (adI X) (pl0 g ev (I 147 5)) (Nat.zero_le n) (by omega) (Nat.le_refl 0) (fun a h1 h2 => by rw [a3 a h2]; exact xF a h1) a2 (clR_of hc a3) (pl0_ok hp.1.2 hev.1) (by show ev + 1 ≤ ev + 1 + ((0 : Nat) : Int); omega) (by rw [a3 147 (by decide), hX]; rfl) (by rw [a3 147 (by decide), hX]; rfl) (by rw [a3 147 (by decide), hX]; rfl)
  refine ⟨J, w_X4_run_0 (J1 := adI X) (J2 := J) hl0 hl1 hl2 hl3 (fun _ => ?_) (fun _ => q1) (fun q => absurd (by rw [c3]; decide) q) (fun q => absurd (by rw [c3]; decide) q) (v1 := fun _ => by rw [c3]; decide) (v2 := fun _ => by rw [c3]; decide) (v3 := fun _ => by rw [c3]; decide) (v4 := fun _ => by rw [c3]; decide) (v5 := fun _ => by rw [c4]; omega) (v6 := fun _ => by rw [c3]; decide), q2⟩
  rw [c3, c4, ← hX]
  exact a1
end
end
