/-! ===== behind image, restore, feed ===== -/
noncomputable section
/-- all arrays that such calls change -/
def mutR (a : Nat) : Prop := a = 31 ∨ a = 33 ∨ (126 ≤ a ∧ a ≤ 143) ∨ a = 155 ∨ a = 157 ∨ a = 158 ∨ a = 178 ∨ a = 179 ∨ (187 ≤ a ∧ a ≤ 190)
def crR (k : Nat) : Prop := k = 13 ∨ k = 14 ∨ k = 15 ∨ (47 ≤ k ∧ k ≤ 49)
def fW (U : Nat) (I J : Nat → Nat → Int) : Prop := (∀ a, a < 192 → ¬(scr a ∨ a = 191) → a ≠ 156 → ¬mutR a → ¬(U ≤ a ∧ a < U + 43) → J a = I a) ∧ (∀ k, crR k → J 156 k = I 156 k) ∧ ∀ a, 192 ≤ a → J a = I a
section
variable {I J K : Nat → Nat → Int} {S S' : PS} {c T U n P R N A p r s s' : Nat}
theorem iP_w (h : iP I T P) (hT : (T = 34 ∧ U = 77) ∨ (T = 77 ∧ U = 34)) (q : fW U I J) : iP J T P := by
  obtain ⟨h0, h1, h2, h3⟩ := h
  have c0 : ∀ a, 159 ≤ a → a < 172 → a ≠ 162 → a ≠ 163 → a ≠ 164 → a ≠ 166 → J a = I a := fun a b1 b2 b3 b4 b5 b6 => q.1 a (by omega) (by unfold scr; omega) (by omega) (by unfold mutR; omega) (by omega)
  have cT : ∀ a, T ≤ a → a < T + 43 → J a = I a := fun a b1 b2 => q.1 a (by omega) (by unfold scr; omega) (by omega) (by unfold mutR; omega) (by omega)
  refine ⟨h0, by rw [cT T (by omega) (by omega)]; exact h1, by rw [q.2.1 13 (by unfold crR; omega)]; exact h2, fun p hp => ?_⟩
  obtain ⟨g1, r, s, g2, g3, g4, g5⟩ := h3 p hp
  have e0 := cT (T + 7 + 9 * p) (by omega) (by omega)
  have ej : ∀ j, j < 9 → J (T + 7 + 9 * p + j) = I (T + 7 + 9 * p + j) := fun j hj => cT _ (by omega) (by omega)
  refine ⟨pc_frame g1 (fun k _ => by rw [e0]) (ej 1 (by omega)) (ej 2 (by omega)) (ej 3 (by omega)) (fun k _ _ => by rw [c0 159 (by omega) (by omega) (by omega) (by omega) (by omega) (by omega)]) (fun k _ _ => by rw [c0 165 (by omega) (by omega) (by omega) (by omega) (by omega) (by omega)]), r, s, by rw [e0]; exact g2, by rw [e0]; exact g3, tbM_of g4 (c0 _ (by omega) (by omega) (by omega) (by omega) (by omega) (by omega)) (c0 _ (by omega) (by omega) (by omega) (by omega) (by omega) (by omega)) (c0 _ (by omega) (by omega) (by omega) (by omega) (by omega) (by omega)) (c0 _ (by omega) (by omega) (by omega) (by omega) (by omega) (by omega)) (c0 _ (by omega) (by omega) (by omega) (by omega) (by omega) (by omega)) (c0 _ (by omega) (by omega) (by omega) (by omega) (by omega) (by omega)) (c0 _ (by omega) (by omega) (by omega) (by omega) (by omega) (by omega)), ?_⟩
  rcases g5 with g5 | g5
  · exact Or.inl (by rw [e0]; exact g5)
  · exact Or.inr (tbC_of g5 (by rw [e0]) (by rw [e0]) (ej 5 (by omega)) (ej 6 (by omega)) (ej 7 (by omega)) (ej 8 (by omega)) (c0 _ (by omega) (by omega) (by omega) (by omega) (by omega) (by omega)) (c0 _ (by omega) (by omega) (by omega) (by omega) (by omega) (by omega)) (c0 _ (by omega) (by omega) (by omega) (by omega) (by omega) (by omega)))
theorem iR_w (h : iR I T R) (hT : (T = 34 ∧ U = 77) ∨ (T = 77 ∧ U = 34)) (q : fW U I J) : iR J T R := by
  unfold iR ruR at h ⊢
  rw [q.1 (T + 2) (by omega) (by unfold scr; omega) (by omega) (by unfold mutR; omega) (by omega), q.2.1 14 (by unfold crR; omega), q.1 160 (by omega) (by unfold scr; omega) (by omega) (by unfold mutR; omega) (by omega), q.1 (T + 3) (by omega) (by unfold scr; omega) (by omega) (by unfold mutR; omega) (by omega)]
  exact h
theorem iS_w (h : iS I T N) (hT : (T = 34 ∧ U = 77) ∨ (T = 77 ∧ U = 34)) (q : fW U I J) : iS J T N := by
  unfold iS stR at h ⊢
  rw [q.1 T (by omega) (by unfold scr; omega) (by omega) (by unfold mutR; omega) (by omega), q.2.1 15 (by unfold crR; omega), q.1 161 (by omega) (by unfold scr; omega) (by omega) (by unfold mutR; omega) (by omega), q.1 (T + 4) (by omega) (by unfold scr; omega) (by omega) (by unfold mutR; omega) (by omega), q.1 (T + 5) (by omega) (by unfold scr; omega) (by omega) (by unfold mutR; omega) (by omega), q.1 (T + 6) (by omega) (by unfold scr; omega) (by omega) (by unfold mutR; omega) (by omega)]
  exact h
theorem iN_w (h : iN I c) (hT : (T = 34 ∧ U = 77) ∨ (T = 77 ∧ U = 34)) (q : fW U I J) : iN J c := by
  unfold iN at h ⊢
  rw [q.1 154 (by omega) (by unfold scr; omega) (by omega) (by unfold mutR; omega) (by omega), q.1 147 (by omega) (by unfold scr; omega) (by omega) (by unfold mutR; omega) (by omega), q.2.1 47 (by unfold crR; omega), q.2.1 48 (by unfold crR; omega), q.2.1 49 (by unfold crR; omega), q.1 186 (by omega) (by unfold scr; omega) (by omega) (by unfold mutR; omega) (by omega)]
  exact h
theorem iG_w (h : iG I S) (hT : (T = 34 ∧ U = 77) ∨ (T = 77 ∧ U = 34)) (q : fW U I J) (hR : rgI J S') (hS : ∀ b, b < 192 → b ≠ 120 → S'.1 b = S.1 b) : iG J S' := by
  obtain ⟨_, h2, h3, h4⟩ := h
  have e : ∀ a, a < 31 → J a = I a := fun a ha => q.1 a (by omega) (by unfold scr; omega) (by omega) (by unfold mutR; omega) (by omega)
  exact ⟨hR, fun no j a b => by rw [e no (by omega), e 0 (by omega)]; exact h2 no j a b, stC_of h3 (fun a ha => e a (by omega)), strs_S (strs_of h4 (fun a ha => e a (by omega))) hS⟩
theorem IV_w (h : IV c T U n P R N I S) (q : fW U I J) (e1 : J 122 = I 122) (e2 : J 123 = I 123) {n' : Nat} (hTx : iT J n') (hF : iF J (c + 1)) (hA : iA J N R) (hI : iI J N R) : IV (c + 1) T U n' P R N J S := by
  obtain ⟨a1, a2, a3, a4, a5, a6, a7, a8, a9, a10, a11, a12⟩ := h
  have hT := a1.2.2
  exact ⟨a1, hTx, hF, iP_w a4 hT q, iR_w a5 hT q, iS_w a6 hT q, hA, hI, iN_c (iN_w a9 hT q) (by omega), iC_e a10 e1 e2, iG_w a11 hT q (rgI_of a11.1 q.2.2 (fun b b1 b2 => q.1 b (by omega) (by unfold scr; omega) (by omega) (by unfold mutR; omega) (by omega))) (fun _ _ _ => rfl), iZ_q a12 (by omega) (by omega) (by omega)⟩
theorem saR_cp {row kept nts row' kept' nts' : Nat → Int} {ac nn ac' nn' : Int} (h : saR I s N R row kept nts ac nn) (hN : N ≤ 12) (hR : R ≤ 6) (e2 : K s' 2 = I s 2) (e6 : K s' 6 = I s 6) (c2 : ∀ k, k < 4 → K (s' + 2) k = I (s + 2) k) (c3 : ∀ k, k < 6 → K (s' + 3) k = I (s + 3) k) (c4 : ∀ k, k < 30 → K (s' + 4) k = I (s + 4) k) (c5 : ∀ k, k < 30 → K (s' + 5) k = I (s + 5) k) (c6 : ∀ k, k < 30 → K (s' + 6) k = I (s + 6) k) (c7 : ∀ k, k < 8 → K (s' + 7) k = I (s + 7) k) (c8 : ∀ k, k < 8 → K (s' + 8) k = I (s + 8) k) (er : ∀ k, k < 18 → row' k = row k) (ek : ∀ k, k < 540 → kept' k = kept k) (en : ∀ k, k < 16 → nts' k = nts k) (ea : ac' = ac) (em : nn' = nn) : saR K s' N R row' kept' nts' ac' nn' := by
  obtain ⟨h1, h2, ⟨a, a1, a2, a3, a4⟩, m, m1, m2, m3, m4⟩ := h
  refine ⟨?_, fun r hr => ?_, ⟨a, a1, by rw [e2]; exact a2, by rw [ea]; exact a3, fun k hk => ?_⟩, m, m1, by rw [e6]; exact m2, by rw [em]; exact m3, fun i hi => ?_⟩
  · exact pnt_ext (pnt_4 h1 (fun k hk => c2 k hk)) (fun i hi => (er i (by omega)).symm)
  · rw [c3 r (by omega), er _ (by omega)]; exact h2 r hr
  · rw [c4 k (by omega), c5 k (by omega), c6 k (by omega)]
    refine acU_cg (a4 k hk) (fun i hi => ?_) (fun i hi => ek _ (by omega))
    by_cases q : k + 1 < a
    · rw [if_pos q, if_pos q]; exact ek _ (by omega)
    · rw [if_neg q, if_neg q]; exact er i (by omega)
  · rw [c7 i (by omega), c8 i (by omega), en _ (by omega), en _ (by omega)]; exact m4 i hi
end
end
