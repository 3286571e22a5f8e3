/-! ===== behind a call that changes the state ===== -/
noncomputable section
/-- arrays of the state that is worked on, and the refused -/
def mutQ (a : Nat) : Prop := a = 126 ∨ (128 ≤ a ∧ a ≤ 134) ∨ a = 155 ∨ a = 158 ∨ a = 178 ∨ a = 179 ∨ a = 187
def fM (U : Nat) (I J : Nat → Nat → Int) : Prop := (∀ a, a < 192 → ¬(scr a ∨ a = 191) → a ≠ 156 → ¬mutQ a → ¬(U ≤ a ∧ a < U + 43) → J a = I a) ∧ (∀ k, cr k → k ≠ 41 → k ≠ 56 → J 156 k = I 156 k) ∧ ∀ a, 192 ≤ a → J a = I a
section
variable {I J K : Nat → Nat → Int} {S S' : PS} {c T U n P R N A p r s : Nat}
theorem iT_m (h : iT I n) (hT : (T = 34 ∧ U = 77) ∨ (T = 77 ∧ U = 34)) (q : fM U I J) : iT J n := by
  unfold iT at h ⊢
  rw [q.1 31 (by omega) (by unfold scr; omega) (by omega) (by unfold mutQ; omega) (by omega), q.2.1 2 (by unfold cr; omega) (by omega) (by omega), q.1 33 (by omega) (by unfold scr; omega) (by omega) (by unfold mutQ; omega) (by omega), q.1 157 (by omega) (by unfold scr; omega) (by omega) (by unfold mutQ; omega) (by omega)]
  exact h
theorem iP_m (h : iP I T P) (hT : (T = 34 ∧ U = 77) ∨ (T = 77 ∧ U = 34)) (q : fM U I J) : iP J T P := by
  obtain ⟨h0, h1, h2, h3⟩ := h
  have c0 : ∀ a, 159 ≤ a → a < 172 → a ≠ 162 → a ≠ 163 → a ≠ 164 → a ≠ 166 → J a = I a := fun a b1 b2 b3 b4 b5 b6 => q.1 a (by omega) (by unfold scr; omega) (by omega) (by unfold mutQ; omega) (by omega)
  have cT : ∀ a, T ≤ a → a < T + 43 → J a = I a := fun a b1 b2 => q.1 a (by omega) (by unfold scr; omega) (by omega) (by unfold mutQ; omega) (by omega)
  refine ⟨h0, by rw [cT T (by omega) (by omega)]; exact h1, by rw [q.2.1 13 (by unfold cr; omega) (by omega) (by omega)]; exact h2, fun p hp => ?_⟩
  obtain ⟨g1, r, s, g2, g3, g4, g5⟩ := h3 p hp
  have e0 := cT (T + 7 + 9 * p) (by omega) (by omega)
  have ej : ∀ j, j < 9 → J (T + 7 + 9 * p + j) = I (T + 7 + 9 * p + j) := fun j hj => cT _ (by omega) (by omega)
  refine ⟨pc_frame g1 (fun k _ => by rw [e0]) (ej 1 (by omega)) (ej 2 (by omega)) (ej 3 (by omega)) (fun k _ _ => by rw [c0 159 (by omega) (by omega) (by omega) (by omega) (by omega) (by omega)]) (fun k _ _ => by rw [c0 165 (by omega) (by omega) (by omega) (by omega) (by omega) (by omega)]), r, s, by rw [e0]; exact g2, by rw [e0]; exact g3, tbM_of g4 (c0 _ (by omega) (by omega) (by omega) (by omega) (by omega) (by omega)) (c0 _ (by omega) (by omega) (by omega) (by omega) (by omega) (by omega)) (c0 _ (by omega) (by omega) (by omega) (by omega) (by omega) (by omega)) (c0 _ (by omega) (by omega) (by omega) (by omega) (by omega) (by omega)) (c0 _ (by omega) (by omega) (by omega) (by omega) (by omega) (by omega)) (c0 _ (by omega) (by omega) (by omega) (by omega) (by omega) (by omega)) (c0 _ (by omega) (by omega) (by omega) (by omega) (by omega) (by omega)), ?_⟩
  rcases g5 with g5 | g5
  · exact Or.inl (by rw [e0]; exact g5)
  · exact Or.inr (tbC_of g5 (by rw [e0]) (by rw [e0]) (ej 5 (by omega)) (ej 6 (by omega)) (ej 7 (by omega)) (ej 8 (by omega)) (c0 _ (by omega) (by omega) (by omega) (by omega) (by omega) (by omega)) (c0 _ (by omega) (by omega) (by omega) (by omega) (by omega) (by omega)) (c0 _ (by omega) (by omega) (by omega) (by omega) (by omega) (by omega)))
theorem iR_m (h : iR I T R) (hT : (T = 34 ∧ U = 77) ∨ (T = 77 ∧ U = 34)) (q : fM U I J) : iR J T R := by
  unfold iR ruR at h ⊢
  rw [q.1 (T + 2) (by omega) (by unfold scr; omega) (by omega) (by unfold mutQ; omega) (by omega), q.2.1 14 (by unfold cr; omega) (by omega) (by omega), q.1 160 (by omega) (by unfold scr; omega) (by omega) (by unfold mutQ; omega) (by omega), q.1 (T + 3) (by omega) (by unfold scr; omega) (by omega) (by unfold mutQ; omega) (by omega)]
  exact h
theorem iS_m (h : iS I T N) (hT : (T = 34 ∧ U = 77) ∨ (T = 77 ∧ U = 34)) (q : fM U I J) : iS J T N := by
  unfold iS stR at h ⊢
  rw [q.1 T (by omega) (by unfold scr; omega) (by omega) (by unfold mutQ; omega) (by omega), q.2.1 15 (by unfold cr; omega) (by omega) (by omega), q.1 161 (by omega) (by unfold scr; omega) (by omega) (by unfold mutQ; omega) (by omega), q.1 (T + 4) (by omega) (by unfold scr; omega) (by omega) (by unfold mutQ; omega) (by omega), q.1 (T + 5) (by omega) (by unfold scr; omega) (by omega) (by unfold mutQ; omega) (by omega), q.1 (T + 6) (by omega) (by unfold scr; omega) (by omega) (by unfold mutQ; omega) (by omega)]
  exact h
theorem iI_m (h : iI I N R) (hN : N ≤ 12) (hR : R ≤ 6) (hT : (T = 34 ∧ U = 77) ∨ (T = 77 ∧ U = 34)) (q : fM U I J) : iI J N R := by
  have e : ∀ a, 135 ≤ a → a < 144 → J a = I a := fun a b1 b2 => q.1 a (by omega) (by unfold scr; omega) (by omega) (by unfold mutQ; omega) (by omega)
  have e9 : ∀ a, 188 ≤ a → a < 191 → J a = I a := fun a b1 b2 => q.1 a (by omega) (by unfold scr; omega) (by omega) (by unfold mutQ; omega) (by omega)
  obtain ⟨h1, h2⟩ := h
  refine ⟨by rw [q.1 31 (by omega) (by unfold scr; omega) (by omega) (by unfold mutQ; omega) (by omega), q.2.1 59 (by unfold cr; omega) (by omega) (by omega)]; exact h1, ?_⟩
  rw [q.2.1 59 (by unfold cr; omega) (by omega) (by omega)]
  rcases h2 with h2 | ⟨h2, h3⟩
  · exact Or.inl h2
  · exact Or.inr ⟨h2, saR_of h3 hN hR ⟨by rw [e 135 (by omega) (by omega)], by rw [e 135 (by omega) (by omega)]⟩ (fun a b1 b2 => e a (by omega) (by omega)) (fun k _ => by rw [e9 188 (by omega) (by omega)]) (e9 189 (by omega) (by omega)) (e9 190 (by omega) (by omega)) (q.2.1 60 (by unfold cr; omega) (by omega) (by omega)) (q.2.1 61 (by unfold cr; omega) (by omega) (by omega))⟩
theorem iN_m (h : iN I c) (hT : (T = 34 ∧ U = 77) ∨ (T = 77 ∧ U = 34)) (q : fM U I J) : iN J c := by
  unfold iN at h ⊢
  rw [q.1 154 (by omega) (by unfold scr; omega) (by omega) (by unfold mutQ; omega) (by omega), q.1 147 (by omega) (by unfold scr; omega) (by omega) (by unfold mutQ; omega) (by omega), q.2.1 47 (by unfold cr; omega) (by omega) (by omega), q.2.1 48 (by unfold cr; omega) (by omega) (by omega), q.2.1 49 (by unfold cr; omega) (by omega) (by omega), q.1 186 (by omega) (by unfold scr; omega) (by omega) (by unfold mutQ; omega) (by omega)]
  exact h
theorem iG_m (h : iG I S) (hT : (T = 34 ∧ U = 77) ∨ (T = 77 ∧ U = 34)) (q : fM U I J) (hR : rgI J S') (hS : ∀ b, b < 192 → b ≠ 120 → S'.1 b = S.1 b) : iG J S' := by
  obtain ⟨_, h2, h3, h4⟩ := h
  have e : ∀ a, a < 31 → J a = I a := fun a ha => q.1 a (by omega) (by unfold scr; omega) (by omega) (by unfold mutQ; omega) (by omega)
  exact ⟨hR, fun no j a b => by rw [e no (by omega), e 0 (by omega)]; exact h2 no j a b, stC_of h3 (fun a ha => e a (by omega)), strs_S (strs_of h4 (fun a ha => e a (by omega))) hS⟩
theorem IV_m (h : IV c T U n P R N I S) (q : fM U I J) (e1 : J 122 = I 122) (e2 : J 123 = I 123) (hF : iF J (c + 1)) (hA : iA J N R) : IV (c + 1) T U n P R N J S := by
  obtain ⟨a1, a2, a3, a4, a5, a6, a7, a8, a9, a10, a11, a12⟩ := h
  have hT := a1.2.2
  exact ⟨a1, iT_m a2 hT q, hF, iP_m a4 hT q, iR_m a5 hT q, iS_m a6 hT q, hA, iI_m a8 a6.1 a5.1 hT q, iN_c (iN_m a9 hT q) (by omega), iC_e a10 e1 e2, iG_m a11 hT q (rgI_of a11.1 q.2.2 (fun b b1 b2 => q.1 b (by omega) (by unfold scr; omega) (by omega) (by unfold mutQ; omega) (by omega))) (fun _ _ _ => rfl), iZ_q a12 (by omega) (by omega) (by omega)⟩
end
end
