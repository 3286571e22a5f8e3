/-! ===== a ring's colourings are grown ===== -/
noncomputable section
def grT (h : Nat → List Int) : Nat → Nat → List Int
  | 0, _ => []
  | q + 1, c => h c ++ grT h q (c + 1)
def grS : Nat → Int → Int → List Int
  | 0, code, _ => [code]
  | j + 1, code, used => grT (fun c => if ((c : Int) ≤ used ∧ (c : Int) ≠ p_and code 3) ∧ ¬(j = 0 ∧ c = 0) then grS j (p_or (p_shl code 2) (c : Int)) (if (c : Int) ≠ used then used else used + 1) else []) 4 0
def grH (j : Nat) (code used : Int) (c : Nat) : List Int := if ((c : Int) ≤ used ∧ (c : Int) ≠ p_and code 3) ∧ ¬(j = 0 ∧ c = 0) then grS j (p_or (p_shl code 2) (c : Int)) (if (c : Int) ≠ used then used else used + 1) else []
theorem grT_nil {h : Nat → List Int} : ∀ {q c : Nat}, (∀ c', c ≤ c' → h c' = []) → grT h q c = []
  | 0, _, _ => rfl
  | q + 1, c, e => by
    unfold grT
    rw [e c (Nat.le_refl c), grT_nil (fun c' hc => e c' (by omega))]
    rfl
section
variable {S : PS} {a0 : Nat}
/-- what stands behind some more codes -/
def grO (a0 n : Nat) (L : List Int) (I J : Nat → Nat → Int) : Prop := (∀ a, a ≠ a0 → a ≠ a0 + 1 → J a = I a) ∧ (∀ i, i ≠ 1 → J a0 i = I a0 i) ∧ J a0 1 = (n : Int) + (L.length : Int) ∧ (∀ i, i < n → J (a0 + 1) i = I (a0 + 1) i) ∧ ∀ i, i < L.length → L[i]? = some (J (a0 + 1) (n + i))
theorem grO_app {n : Nat} {L M : List Int} {I J X : Nat → Nat → Int} (h : grO a0 n L I J) (g : grO a0 (n + L.length) M J X) : grO a0 n (L ++ M) I X := by
  obtain ⟨h1, h2, h3, h4, h5⟩ := h
  obtain ⟨g1, g2, g3, g4, g5⟩ := g
  refine ⟨fun a q0 q1 => by rw [g1 a q0 q1, h1 a q0 q1], fun i hi => by rw [g2 i hi, h2 i hi], ?_, fun i hi => by rw [g4 i (by omega), h4 i hi], fun i hi => ?_⟩
  · rw [g3, List.length_append]; omega
  · rw [List.length_append] at hi
    by_cases e : i < L.length
    · rw [List.getElem?_append_left e, h5 i e, g4 (n + i) (by omega)]
    · rw [List.getElem?_append_right (by omega), g5 (i - L.length) (by omega), show n + L.length + (i - L.length) = n + i by omega]
theorem gr_C {r : Nat} (hl0 : LyX6 S a0) (hr7 : r ≤ 7) : ∀ (j place d n : Nat) (code used : Int) (I : Nat → Nat → Int), place + j = r → j ≤ d → 0 ≤ used ∧ used ≤ 4 → I a0 0 = (r : Int) → I a0 1 = (n : Int) → n + (grS j code used).length ≤ 91 → ∃ J, Ca (d + 1) mX6_grow [vR (some (16, 0, a0)), vI (place : Int), vI code, vI used] (I, S) (.inl none) (J, S) ∧ grO a0 n (grS j code used) I J := by
  intro j
  induction j with
  | zero =>
    intro place d n code used I hp hd hu h0 h1 hlen
    have hlen : n + 1 ≤ 91 := hlen
    have hn : (I a0 1).toNat = n := by omega
    have hk : (up2 I (a0 + 1) ((I a0 1).toNat) code) a0 1 = (n : Int) := by rw [up2_a _ (by omega)]; exact h1
    refine ⟨up2 (up2 I (a0 + 1) n code) a0 1 ((n : Int) + 1), w_X6_grow_0 hl0 (fun h => absurd h (by omega)) (e1 := fun _ h => absurd h (by omega)) (e2 := fun _ _ => by rw [hk, hn]) (v1 := fun _ _ => by omega) (v2 := fun _ _ => by rw [hk]; omega), fun a q0 q1 => by funext k; rw [up2_a _ q0, up2_a _ q1], fun i hi => by rw [up2_k _ hi, up2_a _ (by omega)], by rw [up2_same]; rfl, fun i hi => by rw [up2_a _ (by omega), up2_k _ (by omega)], fun i hi => ?_⟩
    have hi : i < 1 := hi
    have : i = 0 := by omega
    subst this
    rw [up2_a _ (by omega)]
    show some code = some (up2 I (a0 + 1) n code (a0 + 1) n)
    rw [up2_same]
  | succ j ih =>
    intro place d n code used I hp hd hu h0 h1 hlen
    obtain ⟨e, rfl⟩ : ∃ e, d = e + 1 := ⟨d - 1, by omega⟩
    have hS : grS (j + 1) code used = grT (grH j code used) 4 0 := rfl
    rw [hS] at hlen ⊢
    have loop : ∀ (q c m : Nat) (X : Nat → Nat → Int), q + c = 4 → X a0 0 = (r : Int) → X a0 1 = (m : Int) → m + (grT (grH j code used) q c).length ≤ 91 → ∃ J, L_X6_grow_41 (e + 1) a0 (place : Int) code used (c : Int) X S (J, S) ∧ grO a0 m (grT (grH j code used) q c) X J := by
      intro q
      induction q with
      | zero =>
        intro c m X hq x0 x1 hl
        refine ⟨X, ?_, fun _ _ _ => rfl, fun _ _ => rfl, by rw [x1]; show (m : Int) = (m : Int) + ((0 : Nat) : Int); omega, fun _ _ => rfl, fun i hi => absurd hi (by show ¬(i < 0); omega)⟩
        exact w_X6_grow_41 (J1 := X) hl0 (fun _ h => absurd h (by omega)) (fun _ h => absurd h (by omega)) (fun _ h => absurd h (by omega)) (fun _ h => absurd h (by omega))
      | succ q ihq =>
        intro c m X hq x0 x1 hl
        have hu2 : grT (grH j code used) (q + 1) c = grH j code used c ++ grT (grH j code used) q (c + 1) := rfl
        rw [hu2, List.length_append] at hl
        rw [hu2]
        by_cases hcu : (c : Int) ≤ used
        · by_cases hlast : (c : Int) = p_and code 3
          · have hH : grH j code used c = [] := by unfold grH; rw [if_neg (fun w => w.1.2 hlast)]
            rw [hH] at hl ⊢
            obtain ⟨J, hL, hO⟩ := ihq (c + 1) m X (by omega) x0 x1 (by simpa using hl)
            exact ⟨J, w_X6_grow_41 (J1 := X) hl0 (fun _ _ _ => hL) (fun _ _ h => absurd hlast h) (fun _ _ h => absurd hlast h) (fun _ _ h => absurd hlast h) (e1 := fun h => absurd h (by omega)) (e2 := fun _ h => absurd h (by omega)), hO⟩
          · by_cases hbad : j = 0 ∧ c = 0
            · have hH : grH j code used c = [] := by unfold grH; rw [if_neg (fun w => w.2 hbad)]
              rw [hH] at hl ⊢
              obtain ⟨J, hL, hO⟩ := ihq (c + 1) m X (by omega) x0 x1 (by simpa using hl)
              have hb2 : ((place : Int) = X a0 0 - 1) ∧ ((c : Int) = 0) := ⟨by rw [x0]; omega, by omega⟩
              exact ⟨J, w_X6_grow_41 (J1 := X) hl0 (fun _ _ h => absurd h hlast) (fun _ _ _ _ => hL) (fun _ _ _ h => absurd hb2 h) (fun _ _ _ h => absurd hb2 h) (e1 := fun h => absurd h (by omega)) (e2 := fun _ h => absurd h (by omega)), hO⟩
            · have hH : grH j code used c = grS j (p_or (p_shl code 2) (c : Int)) (if (c : Int) ≠ used then used else used + 1) := by unfold grH; rw [if_pos ⟨⟨hcu, hlast⟩, hbad⟩]
              rw [hH] at hl ⊢
              have hb2 : ¬(((place : Int) = X a0 0 - 1) ∧ ((c : Int) = 0)) := fun w => hbad ⟨by have := w.1; rw [x0] at this; omega, by omega⟩
              obtain ⟨J1, hcall, hO1⟩ := ih (place + 1) e m (p_or (p_shl code 2) (c : Int)) (if (c : Int) ≠ used then used else used + 1) X (by omega) (by omega) (by split <;> omega) x0 x1 (by omega)
              obtain ⟨J, hL, hO⟩ := ihq (c + 1) (m + (grS j (p_or (p_shl code 2) (c : Int)) (if (c : Int) ≠ used then used else used + 1)).length) J1 (by omega) (by rw [hO1.2.1 0 (by decide)]; exact x0) (by rw [hO1.2.2.1]; omega) (by omega)
              exact ⟨J, w_X6_grow_41 (J1 := J1) hl0 (fun _ _ h => absurd h hlast) (fun _ _ _ h => absurd h hb2) (fun _ _ _ _ => hcall) (fun _ _ _ _ => hL) (e1 := fun h => absurd h (by omega)) (e2 := fun _ h => absurd h (by omega)), grO_app hO1 hO⟩
        · have hnil : grT (grH j code used) (q + 1) c = [] := grT_nil (fun c' hc' => by unfold grH; rw [if_neg (fun w => by have := w.1.1; omega)])
          rw [← hu2, hnil]
          refine ⟨X, ?_, fun _ _ _ => rfl, fun _ _ => rfl, by rw [x1]; show (m : Int) = (m : Int) + ((0 : Nat) : Int); omega, fun _ _ => rfl, fun i hi => absurd hi (by show ¬(i < 0); omega)⟩
          exact w_X6_grow_41 (J1 := X) hl0 (fun h => absurd h (by omega)) (fun h => absurd h (by omega)) (fun h => absurd h (by omega)) (fun h => absurd h (by omega))
    obtain ⟨J, hL, hO⟩ := loop 4 0 n I rfl h0 h1 hlen
    exact ⟨J, w_X6_grow_0 hl0 (fun _ => hL) (e1 := fun h => absurd h (by omega)) (e2 := fun h => absurd h (by omega)) (v1 := fun h => absurd h (by omega)) (v2 := fun h => absurd h (by omega)), hO⟩
theorem gr_cl {r : Nat} (hr : r = 5 ∨ r = 6 ∨ r = 7) : grS (r - 1) 0 1 = clL r := by
  rcases hr with rfl | rfl | rfl
  · decide +kernel
  · decide +kernel
  · decide +kernel
end
end
