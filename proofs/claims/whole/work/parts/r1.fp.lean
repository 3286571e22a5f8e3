/-! ===== behind a plan: what may change ===== -/
noncomputable section
/-- arrays that a plan changes besides scratch -/
def plZ (a : Nat) : Prop := a = 31 ∨ a = 147 ∨ a = 154 ∨ a = 156 ∨ a = 186
def crP (k : Nat) : Prop := k = 4 ∨ k = 13 ∨ k = 14 ∨ k = 15 ∨ k = 41 ∨ k = 56 ∨ (59 ≤ k ∧ k ≤ 61)
def fP (U : Nat) (I J : Nat → Nat → Int) : Prop := (∀ a, a < 192 → ¬(scr a ∨ a = 191) → ¬plZ a → a ≠ 178 → ¬(U ≤ a ∧ a < U + 43) → J a = I a) ∧ (∀ k, crP k → J 156 k = I 156 k) ∧ (∀ k, k < 18 → J 178 k = I 178 k) ∧ ∀ k, k ≠ 1 → J 31 k = I 31 k
section
variable {I J K : Nat → Nat → Int} {S S' : PS} {c T U n P R N A p r s : Nat}
theorem iP_p (h : iP I T P) (hT : (T = 34 ∧ U = 77) ∨ (T = 77 ∧ U = 34)) (q : fP U I J) : iP J T P := by
  obtain ⟨h0, h1, h2, h3⟩ := h
  have c0 : ∀ a, 159 ≤ a → a < 172 → a ≠ 162 → a ≠ 163 → a ≠ 164 → a ≠ 166 → J a = I a := fun a b1 b2 b3 b4 b5 b6 => q.1 a (by omega) (by unfold scr; omega) (by unfold plZ; omega) (by omega) (by omega)
  have cT : ∀ a, T ≤ a → a < T + 43 → J a = I a := fun a b1 b2 => q.1 a (by omega) (by unfold scr; omega) (by unfold plZ; omega) (by omega) (by omega)
  refine ⟨h0, by rw [cT T (by omega) (by omega)]; exact h1, by rw [q.2.1 13 (by unfold crP; omega)]; exact h2, fun p hp => ?_⟩
  obtain ⟨g1, r, s, g2, g3, g4, g5⟩ := h3 p hp
  have e0 := cT (T + 7 + 9 * p) (by omega) (by omega)
  have ej : ∀ j, j < 9 → J (T + 7 + 9 * p + j) = I (T + 7 + 9 * p + j) := fun j hj => cT _ (by omega) (by omega)
  refine ⟨pc_frame g1 (fun k _ => by rw [e0]) (ej 1 (by omega)) (ej 2 (by omega)) (ej 3 (by omega)) (fun k _ _ => by rw [c0 159 (by omega) (by omega) (by omega) (by omega) (by omega) (by omega)]) (fun k _ _ => by rw [c0 165 (by omega) (by omega) (by omega) (by omega) (by omega) (by omega)]), r, s, by rw [e0]; exact g2, by rw [e0]; exact g3, tbM_of g4 (c0 _ (by omega) (by omega) (by omega) (by omega) (by omega) (by omega)) (c0 _ (by omega) (by omega) (by omega) (by omega) (by omega) (by omega)) (c0 _ (by omega) (by omega) (by omega) (by omega) (by omega) (by omega)) (c0 _ (by omega) (by omega) (by omega) (by omega) (by omega) (by omega)) (c0 _ (by omega) (by omega) (by omega) (by omega) (by omega) (by omega)) (c0 _ (by omega) (by omega) (by omega) (by omega) (by omega) (by omega)) (c0 _ (by omega) (by omega) (by omega) (by omega) (by omega) (by omega)), ?_⟩
  rcases g5 with g5 | g5
  · exact Or.inl (by rw [e0]; exact g5)
  · exact Or.inr (tbC_of g5 (by rw [e0]) (by rw [e0]) (ej 5 (by omega)) (ej 6 (by omega)) (ej 7 (by omega)) (ej 8 (by omega)) (c0 _ (by omega) (by omega) (by omega) (by omega) (by omega) (by omega)) (c0 _ (by omega) (by omega) (by omega) (by omega) (by omega) (by omega)) (c0 _ (by omega) (by omega) (by omega) (by omega) (by omega) (by omega)))
theorem iR_p (h : iR I T R) (hT : (T = 34 ∧ U = 77) ∨ (T = 77 ∧ U = 34)) (q : fP U I J) : iR J T R := by
  unfold iR ruR at h ⊢
  rw [q.1 (T + 2) (by omega) (by unfold scr; omega) (by unfold plZ; omega) (by omega) (by omega), q.2.1 14 (by unfold crP; omega), q.1 160 (by omega) (by unfold scr; omega) (by unfold plZ; omega) (by omega) (by omega), q.1 (T + 3) (by omega) (by unfold scr; omega) (by unfold plZ; omega) (by omega) (by omega)]
  exact h
theorem iS_p (h : iS I T N) (hT : (T = 34 ∧ U = 77) ∨ (T = 77 ∧ U = 34)) (q : fP U I J) : iS J T N := by
  unfold iS stR at h ⊢
  rw [q.1 T (by omega) (by unfold scr; omega) (by unfold plZ; omega) (by omega) (by omega), q.2.1 15 (by unfold crP; omega), q.1 161 (by omega) (by unfold scr; omega) (by unfold plZ; omega) (by omega) (by omega), q.1 (T + 4) (by omega) (by unfold scr; omega) (by unfold plZ; omega) (by omega) (by omega), q.1 (T + 5) (by omega) (by unfold scr; omega) (by unfold plZ; omega) (by omega) (by omega), q.1 (T + 6) (by omega) (by unfold scr; omega) (by unfold plZ; omega) (by omega) (by omega)]
  exact h
theorem iA_p (h : iA I N R) (hN : N ≤ 12) (hR : R ≤ 6) (hT : (T = 34 ∧ U = 77) ∨ (T = 77 ∧ U = 34)) (q : fP U I J) : iA J N R :=
  have e : ∀ a, 126 ≤ a → a < 135 → J a = I a := fun a b1 b2 => q.1 a (by omega) (by unfold scr; omega) (by unfold plZ; omega) (by omega) (by omega)
  saR_of h hN hR ⟨by rw [e 126 (by omega) (by omega)], by rw [e 126 (by omega) (by omega)]⟩ (fun a b1 b2 => e a (by omega) (by omega)) q.2.2.1 (q.1 179 (by omega) (by unfold scr; omega) (by unfold plZ; omega) (by omega) (by omega)) (q.1 187 (by omega) (by unfold scr; omega) (by unfold plZ; omega) (by omega) (by omega)) (q.2.1 41 (by unfold crP; omega)) (q.2.1 56 (by unfold crP; omega))
theorem iG_p (h : iG I S) (hT : (T = 34 ∧ U = 77) ∨ (T = 77 ∧ U = 34)) (q : fP U I J) (hR : rgI J S') (hS : ∀ b, b < 192 → b ≠ 120 → S'.1 b = S.1 b) : iG J S' := by
  obtain ⟨_, h2, h3, h4⟩ := h
  have e : ∀ a, a < 31 → J a = I a := fun a ha => q.1 a (by omega) (by unfold scr; omega) (by unfold plZ; omega) (by omega) (by omega)
  exact ⟨hR, fun no j a b => by rw [e no (by omega), e 0 (by omega)]; exact h2 no j a b, stC_of h3 (fun a ha => e a (by omega)), strs_S (strs_of h4 (fun a ha => e a (by omega))) hS⟩
theorem iF_p (h : iF I c) (hT : (T = 34 ∧ U = 77) ∨ (T = 77 ∧ U = 34)) (q : fP U I J) : iF J c := by
  unfold iF at h ⊢
  rw [q.2.2.2 15 (by omega), q.2.1 4 (by unfold crP; omega), q.1 155 (by omega) (by unfold scr; omega) (by unfold plZ; omega) (by omega) (by omega), q.1 158 (by omega) (by unfold scr; omega) (by unfold plZ; omega) (by omega) (by omega)]
  exact h
theorem iI_p (h : iI I N R) (hN : N ≤ 12) (hR : R ≤ 6) (hT : (T = 34 ∧ U = 77) ∨ (T = 77 ∧ U = 34)) (q : fP U I J) : iI J N R := by
  have e : ∀ a, 135 ≤ a → a < 144 → J a = I a := fun a b1 b2 => q.1 a (by omega) (by unfold scr; omega) (by unfold plZ; omega) (by omega) (by omega)
  have e9 : ∀ a, 188 ≤ a → a < 191 → J a = I a := fun a b1 b2 => q.1 a (by omega) (by unfold scr; omega) (by unfold plZ; omega) (by omega) (by omega)
  obtain ⟨h1, h2⟩ := h
  refine ⟨by rw [q.2.2.2 8 (by omega), q.2.1 59 (by unfold crP; omega)]; exact h1, ?_⟩
  rw [q.2.1 59 (by unfold crP; omega)]
  rcases h2 with h2 | ⟨h2, h3⟩
  · exact Or.inl h2
  · exact Or.inr ⟨h2, saR_of h3 hN hR ⟨by rw [e 135 (by omega) (by omega)], by rw [e 135 (by omega) (by omega)]⟩ (fun a b1 b2 => e a (by omega) (by omega)) (fun k _ => by rw [e9 188 (by omega) (by omega)]) (e9 189 (by omega) (by omega)) (e9 190 (by omega) (by omega)) (q.2.1 60 (by unfold crP; omega)) (q.2.1 61 (by unfold crP; omega))⟩
/-- behind a call of that kind -/
theorem IV_p (h : IV c T U n P R N I S) (q : fP U I J) {n' : Nat} (hT1 : iT J n') (hN : iN J (c + 1)) (hC : iC J) (hR : rgI J S') (hS : ∀ b, b < 192 → b ≠ 120 → S'.1 b = S.1 b) (h1 : S'.2.2.2.1 + 5 * rnN S' ≤ S.2.2.2.1 + 5 * rnN S + 1) (h2 : S'.2.2.2.2 + 4745 * rnN S' ≤ S.2.2.2.2 + 4745 * rnN S + 6) : IV (c + 1) T U n' P R N J S' := by
  obtain ⟨a1, a2, a3, a4, a5, a6, a7, a8, a9, a10, a11, a12⟩ := h
  have hT := a1.2.2
  exact ⟨iL_q a1 hS, hT1, iF_c (iF_p a3 hT q) (by omega), iP_p a4 hT q, iR_p a5 hT q, iS_p a6 hT q, iA_p a7 a6.1 a5.1 hT q, iI_p a8 a6.1 a5.1 hT q, hN, hC, iG_p a11 hT q hR hS, iZ_q a12 (by omega) (by omega) (by omega)⟩
/-- the room as it was -/
theorem IV_p0 (h : IV c T U n P R N I S) (q : fP U I J) (q2 : ∀ a, 192 ≤ a → J a = I a) (e1 : J 122 = I 122) (e2 : J 123 = I 123) {n' : Nat} (hT1 : iT J n') (hN : iN J (c + 1)) : IV (c + 1) T U n' P R N J S := by
  have hT := (IV_L h).2.2
  have hG := (IV_G h).1
  have hC := h.2.2.2.2.2.2.2.2.2.1
  exact IV_p h q hT1 hN (iC_e hC e1 e2) (rgI_of hG q2 (fun b b1 b2 => q.1 b (by omega) (by unfold scr; omega) (by unfold plZ; omega) (by omega) (by omega))) (fun _ _ _ => rfl) (by omega) (by omega)
theorem IV_nb (h : IV c T U n P R N I S) : ∀ k, k < 8 → -100 ≤ I 154 k ∧ I 154 k ≤ 100 := h.2.2.2.2.2.2.2.2.1.2.2.2.2.2.2.2.2
/-- the class's nets may change -/
theorem IV_154 (h : IV c T U n P R N I S) (q : ∀ a, a ≠ 152 → a ≠ 153 → a ≠ 154 → J a = I a) (hb : ∀ k, k < 8 → -100 ≤ J 154 k ∧ J 154 k ≤ 100) : IV (c + 1) T U n P R N J S := by
  have hT := (IV_L h).2.2
  have o : ∀ a, ¬scr a → ¬plZ a → J a = I a := fun a h1 h2 => q a (fun e => h1 (by unfold scr; omega)) (fun e => h1 (by unfold scr; omega)) (fun e => h2 (by unfold plZ; omega))
  obtain ⟨h1, h2, h3, h4, h5, h6, h7, h8, h9⟩ := h.2.2.2.2.2.2.2.2.1
  refine IV_p0 h ⟨fun a _ b1 b2 _ _ => o a (fun e => b1 (Or.inl e)) b2, fun k _ => by rw [q 156 (by decide) (by decide) (by decide)], fun k _ => by rw [q 178 (by decide) (by decide) (by decide)], fun k _ => by rw [q 31 (by decide) (by decide) (by decide)]⟩ (fun a ha => q a (by omega) (by omega) (by omega)) (q 122 (by decide) (by decide) (by decide)) (q 123 (by decide) (by decide) (by decide)) (n' := n) ?_ ?_
  · have := h.2.1
    unfold iT at this ⊢
    rw [q 31 (by decide) (by decide) (by decide), q 156 (by decide) (by decide) (by decide), q 33 (by decide) (by decide) (by decide), q 157 (by decide) (by decide) (by decide)]
    exact this
  · unfold iN
    rw [q 147 (by decide) (by decide) (by decide), q 156 (by decide) (by decide) (by decide), q 186 (by decide) (by decide) (by decide)]
    exact ⟨h1, h2, h3, h4, h5, by omega, h7, by omega, hb⟩
end
end
