/-! ===== levels: what they hang on ===== -/
noncomputable section
theorem lvR_congr {led led' : (Nat → Int) → Nat → Bool} {rd : Int} {N : Nat} (hl : ∀ f g c, c < N → (∀ i, i < N → f i = g i) → led f c = led' g c) : ∀ {c : Nat} {f g : Nat → Int}, c ≤ N → (∀ i, i < N → f i = g i) → (∀ i, i < N → lvR led rd c f i = lvR led' rd c g i) ∧ lvC led rd c f = lvC led' rd c g
  | 0, f, g, _, h => ⟨h, rfl⟩
  | c + 1, f, g, hc, h => by
    obtain ⟨h1, h2⟩ := lvR_congr hl (c := c) (f := f) (g := g) (by omega) h
    have e1 := h1 c (by omega)
    have e2 := hl (lvR led rd c f) (lvR led' rd c g) c (by omega) h1
    have u1 : lvR led rd (c + 1) f = if lvR led rd c f c = -1 ∧ led (lvR led rd c f) c = true then up1 (lvR led rd c f) c rd else lvR led rd c f := rfl
    have u2 : lvR led' rd (c + 1) g = if lvR led' rd c g c = -1 ∧ led' (lvR led' rd c g) c = true then up1 (lvR led' rd c g) c rd else lvR led' rd c g := rfl
    have u3 : lvC led rd (c + 1) f = (lvC led rd c f || decide (lvR led rd c f c = -1 ∧ led (lvR led rd c f) c = true)) := rfl
    have u4 : lvC led' rd (c + 1) g = (lvC led' rd c g || decide (lvR led' rd c g c = -1 ∧ led' (lvR led' rd c g) c = true)) := rfl
    rw [u1, u2, u3, u4, e1, e2, h2]
    refine ⟨fun i hi => ?_, rfl⟩
    by_cases q : lvR led' rd c g c = -1 ∧ led' (lvR led' rd c g) c = true
    · rw [if_pos q, if_pos q]
      by_cases e : i = c
      · rw [e, up1_same, up1_same]
      · rw [up1_o _ e, up1_o _ e]; exact h1 i hi
    · rw [if_neg q, if_neg q]; exact h1 i hi
theorem lvF_congr {led led' : Int → (Nat → Int) → Nat → Bool} {N : Nat} (hl : ∀ rd f g c, 1 ≤ rd → c < N → (∀ i, i < N → f i = g i) → led rd f c = led' rd g c) : ∀ {k : Nat} {rd : Int} {f g : Nat → Int}, 1 ≤ rd → (∀ i, i < N → f i = g i) → (∀ i, i < N → lvF led N k rd f i = lvF led' N k rd g i) ∧ lvL led N k rd f = lvL led' N k rd g
  | 0, _, _, _, _, h => ⟨h, rfl⟩
  | k + 1, rd, f, g, hrd, h => by
    obtain ⟨h1, h2⟩ := lvR_congr (led := led rd) (led' := led' rd) (rd := rd) (N := N) (fun f g c hc e => hl rd f g c hrd hc e) (c := N) (Nat.le_refl N) h
    have u1 : lvF led N (k + 1) rd f = if lvC (led rd) rd N f = true then lvF led N k (rd + 1) (lvR (led rd) rd N f) else lvR (led rd) rd N f := rfl
    have u2 : lvF led' N (k + 1) rd g = if lvC (led' rd) rd N g = true then lvF led' N k (rd + 1) (lvR (led' rd) rd N g) else lvR (led' rd) rd N g := rfl
    have u3 : lvL led N (k + 1) rd f = if lvC (led rd) rd N f = true then lvL led N k (rd + 1) (lvR (led rd) rd N f) else rd - 1 := rfl
    have u4 : lvL led' N (k + 1) rd g = if lvC (led' rd) rd N g = true then lvL led' N k (rd + 1) (lvR (led' rd) rd N g) else rd - 1 := rfl
    rw [u1, u2, u3, u4, h2]
    obtain ⟨g1, g2⟩ := lvF_congr hl (k := k) (rd := rd + 1) (by omega) h1
    by_cases q : lvC (led' rd) rd N g = true
    · rw [if_pos q, if_pos q, if_pos q, if_pos q]; exact ⟨g1, g2⟩
    · rw [if_neg q, if_neg q, if_neg q, if_neg q]; exact ⟨h1, rfl⟩
theorem lvC_none {led : (Nat → Int) → Nat → Bool} {rd : Int} {f : Nat → Int} : ∀ {c : Nat}, (∀ i, i < c → f i ≠ -1) → lvC led rd c f = false
  | 0, _ => rfl
  | c + 1, h => by
    have u : lvC led rd (c + 1) f = (lvC led rd c f || decide (lvR led rd c f c = -1 ∧ led (lvR led rd c f) c = true)) := rfl
    rw [u, lvC_none (fun i hi => h i (by omega)), Bool.false_or]
    refine decide_eq_false (fun q => ?_)
    rw [lvR_out (Nat.le_refl c)] at q
    exact h c (by omega) q.1
theorem umN_0 {f : Nat → Int} : ∀ {n : Nat}, umN f n = 0 → ∀ i, i < n → f i ≠ -1
  | 0, _, i, hi => absurd hi (by omega)
  | n + 1, h, i, hi => by
    have h : umN f n + (if f n = -1 then 1 else 0) = 0 := h
    by_cases e : i = n
    · intro q
      rw [e] at q
      rw [if_pos q] at h
      omega
    · exact umN_0 (n := n) (by omega) i (by omega)
/-- more rounds than there are colourings without a level change nothing -/
theorem lvF_fuel {led : Int → (Nat → Int) → Nat → Bool} {N : Nat} : ∀ {k k' : Nat} {rd : Int} {f : Nat → Int}, 1 ≤ rd → umN f N ≤ k → k ≤ k' → lvF led N k rd f = lvF led N k' rd f ∧ lvL led N k rd f = lvL led N k' rd f
  | 0, 0, _, _, _, _, _ => ⟨rfl, rfl⟩
  | 0, k' + 1, rd, f, hrd, hu, _ => by
    have hc : lvC (led rd) rd N f = false := lvC_none (umN_0 (by omega))
    have u2 : lvF led N (k' + 1) rd f = if lvC (led rd) rd N f = true then lvF led N k' (rd + 1) (lvR (led rd) rd N f) else lvR (led rd) rd N f := rfl
    have u4 : lvL led N (k' + 1) rd f = if lvC (led rd) rd N f = true then lvL led N k' (rd + 1) (lvR (led rd) rd N f) else rd - 1 := rfl
    rw [u2, u4, hc, if_neg (by decide), if_neg (by decide), lvR_same hc]
    exact ⟨rfl, rfl⟩
  | k + 1, 0, _, _, _, _, hk => absurd hk (by omega)
  | k + 1, k' + 1, rd, f, hrd, hu, hk => by
    have u1 : lvF led N (k + 1) rd f = if lvC (led rd) rd N f = true then lvF led N k (rd + 1) (lvR (led rd) rd N f) else lvR (led rd) rd N f := rfl
    have u2 : lvF led N (k' + 1) rd f = if lvC (led rd) rd N f = true then lvF led N k' (rd + 1) (lvR (led rd) rd N f) else lvR (led rd) rd N f := rfl
    have u3 : lvL led N (k + 1) rd f = if lvC (led rd) rd N f = true then lvL led N k (rd + 1) (lvR (led rd) rd N f) else rd - 1 := rfl
    have u4 : lvL led N (k' + 1) rd f = if lvC (led rd) rd N f = true then lvL led N k' (rd + 1) (lvR (led rd) rd N f) else rd - 1 := rfl
    rw [u1, u2, u3, u4]
    by_cases q : lvC (led rd) rd N f = true
    · have hd := lvC_um (led := led rd) (rd := rd) (f := f) (by omega) (Nat.le_refl N) q
      obtain ⟨g1, g2⟩ := lvF_fuel (led := led) (N := N) (k := k) (k' := k') (rd := rd + 1) (f := lvR (led rd) rd N f) (by omega) (by omega) (by omega)
      rw [if_pos q, if_pos q, if_pos q, if_pos q]; exact ⟨g1, g2⟩
    · rw [if_neg q, if_neg q, if_neg q, if_neg q]; exact ⟨rfl, rfl⟩
/-- the greatest level is the last round -/
theorem lvR_max {led : (Nat → Int) → Nat → Bool} {rd : Int} {N : Nat} {f : Nat → Int} (hf : ∀ i, i < N → f i < rd) : ∀ {c : Nat}, c ≤ N → (∀ i, i < N → lvR led rd c f i ≤ rd) ∧ (lvC led rd c f = true → ∃ i, i < N ∧ lvR led rd c f i = rd)
  | 0, _ => ⟨fun i hi => by have := hf i hi; show f i ≤ rd; omega, fun h => by cases h⟩
  | c + 1, hc => by
    obtain ⟨h1, h2⟩ := lvR_max (led := led) hf (c := c) (by omega)
    have u1 : lvR led rd (c + 1) f = if lvR led rd c f c = -1 ∧ led (lvR led rd c f) c = true then up1 (lvR led rd c f) c rd else lvR led rd c f := rfl
    have u3 : lvC led rd (c + 1) f = (lvC led rd c f || decide (lvR led rd c f c = -1 ∧ led (lvR led rd c f) c = true)) := rfl
    rw [u1, u3]
    by_cases q : lvR led rd c f c = -1 ∧ led (lvR led rd c f) c = true
    · rw [if_pos q]
      refine ⟨fun i hi => ?_, fun _ => ⟨c, by omega, up1_same _ _ _⟩⟩
      by_cases e : i = c
      · rw [e, up1_same]; omega
      · rw [up1_o _ e]; exact h1 i hi
    · rw [if_neg q, decide_eq_false q, Bool.or_false]
      exact ⟨h1, h2⟩
end
