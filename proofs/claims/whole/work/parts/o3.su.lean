/-! ===== what holds behind a study ===== -/
noncomputable section
section
variable {d : Nat} {I J K X Y Z : Nat → Nat → Int} {S S' S1 : PS} {c T U n P R N A a2 p s r a : Nat} {dg b : Int}
variable {mc mr : Nat × Nat} {ec : Nat → Int} {av : List PV}
theorem IV_c {c' : Nat} (h : IV c T U n P R N I S) (hc : c ≤ c') : IV c' T U n P R N I S := by
  obtain ⟨a1, a2, a3, a4, a5, a6, a7, a8, a9, a10, a11, a12⟩ := h
  exact ⟨a1, a2, iF_c a3 hc, a4, a5, a6, a7, a8, iN_c a9 hc, a10, a11, by unfold iZ at a12 ⊢; omega⟩
theorem IV_0 (h : IV c T U n P R N I S) (q : fQ U I J) (hC : iC J) (hR : rgI J S') (hS : rfS S S') : IV c T U n P R N J S' := by
  obtain ⟨a1, a2, a3, a4, a5, a6, a7, a8, a9, a10, a11, a12⟩ := h
  have hT := a1.2.2
  exact ⟨iL_q a1 hS.1, iT_q a2 hT q, iF_q a3 hT q, iP_q a4 hT q, iR_q a5 hT q, iS_q a6 hT q, iA_q a7 a6.1 a5.1 hT q, iI_q a8 a6.1 a5.1 hT q, iN_q a9 hT q, hC, iG_q a11 hT q hR hS.1, by have h1 := hS.2.1; have h2 := hS.2.2; unfold iZ at a12 ⊢; omega⟩
theorem IV_rf (h : IV c T U n P R N I S) (q : rfF I S J S1) (hR : rgI J S1) : IV c T U n P R N J S1 := IV_0 h (rf_fQ q) (rf_C (IV_C h) q) hR q.2
theorem IV_ex (h : IV c T U n P R N I S) : IV (c + 1) T U n P R N I (exS S) := by
  obtain ⟨a1, a2, a3, a4, a5, a6, a7, a8, a9, a10, a11, a12⟩ := IV_c h (Nat.le_succ c)
  obtain ⟨b1, b2, b3, b4⟩ := a11
  have a12 := h.2.2.2.2.2.2.2.2.2.2.2
  refine ⟨a1, a2, a3, a4, a5, a6, a7, a8, a9, a10, ⟨rgI_exS b1, b2, b3, b4⟩, ?_⟩
  unfold iZ at a12 ⊢
  show S.2.2.2.1 + 1 + 5 * rnN S ≤ _ ∧ S.2.2.2.2 + 6 + 4745 * rnN S ≤ _
  omega
theorem mk_okI {v : Int} (hc : Ca 60 mc (vR (some (21, 0, 31)) :: av) (I, S) (.inl (some (vI v))) (J, S')) (hJ : IV (c + 1) T U n P R N J S') (h0 : J 0 = I 0) (hm : ∀ Y, IV (c + 1) T U n P R N Y S' → (∀ a, a ≠ 191 → Y a = J a) → ∃ K, Ca 60 mr (vR (some (22, 0, 156)) :: av) (Y, S') (.inl (some (vI v))) (K, S') ∧ K 156 0 = 0 ∧ fR U Y K) : outC c mc mr ec av I S := by
  refine ⟨0, v, J, S', Or.inl ⟨rfl, hc⟩, fun Y hY => ?_⟩
  have hYI := IV_191 hJ hY
  obtain ⟨K, k1, k2, k3⟩ := hm Y hYI hY
  exact ⟨(hY 0 (by omega)).trans h0, v, K, k1, k2, fun _ => rfl, k3.1.1 191 (by omega) (by unfold scr; omega) (by omega) (by omega) (by have := hYI.1.2.2; omega), T, U, n, P, R, N, IV_r hYI k3⟩
theorem mk_thrI {e : Nat} (he : ec e ≠ 0) (hc : Ca 60 mc (vR (some (21, 0, 31)) :: av) (I, S) (.inr e) (J, exS S')) (hJ : IV c T U n P R N J S') (h0 : J 0 = I 0) (hm : ∀ Y, IV (c + 1) T U n P R N Y (exS S') → (∀ a, a ≠ 191 → Y a = J a) → ∃ b K, Ca 60 mr (vR (some (22, 0, 156)) :: av) (Y, exS S') (.inl (some (vI b))) (K, exS S') ∧ K 156 0 = ec e ∧ fR U Y K) : outC c mc mr ec av I S := by
  refine ⟨ec e, 0, J, exS S', Or.inr ⟨e, rfl, he, hc⟩, fun Y hY => ?_⟩
  have hYI := IV_191 (IV_ex hJ) hY
  obtain ⟨b, K, k1, k2, k3⟩ := hm Y hYI hY
  exact ⟨(hY 0 (by omega)).trans h0, b, K, k1, k2, fun w => absurd w he, k3.1.1 191 (by omega) (by unfold scr; omega) (by omega) (by omega) (by have := hYI.1.2.2; omega), T, U, n, P, R, N, IV_r hYI k3⟩
theorem IV_su (h : IV c T U n P R N I S) (hp : p < P) (hr : I (T + 7 + 9 * p) 3 = (r : Int)) (q : suF (T + 7 + 9 * p) I J) (ht : J (T + 7 + 9 * p) 9 = 0 ∨ tbC J (T + 7 + 9 * p) p r) (hR : rgI J S') (hS : rfS S S') : IV c T U n P R N J S' := by
  obtain ⟨a1, a2, a3, a4, a5, a6, a7, a8, a9, a10, a11, a12⟩ := h
  have hT := a1.2.2
  have hP := a4.1
  have oT : ∀ b, b < 192 → ¬(T + 7 ≤ b ∧ b < T + 43) → J b = I b := fun b h1 h2 => q.1 b h1 (by omega) (by omega) (by omega) (by omega) (by omega) (by omega)
  have fq : fQ T I J := ⟨fun b h1 _ _ _ h5 => oT b h1 (by omega), fun k _ => by rw [oT 156 (by omega) (by omega)], fun k _ => by rw [oT 178 (by omega) (by omega)]⟩
  have hT' : (U = 34 ∧ T = 77) ∨ (U = 77 ∧ T = 34) := by omega
  refine ⟨iL_q a1 hS.1, iT_q a2 hT' fq, iF_q a3 hT' fq, ⟨hP, by rw [oT T (by omega) (by omega)]; exact a4.2.1, by rw [oT 156 (by omega) (by omega)]; exact a4.2.2.1, fun p' hp' => ?_⟩, ?_, ?_, iA_q a7 a6.1 a5.1 hT' fq, iI_q a8 a6.1 a5.1 hT' fq, iN_q a9 hT' fq, iC_e a10 (oT 122 (by omega) (by omega)) (oT 123 (by omega) (by omega)), iG_q a11 hT' fq hR hS.1, by have h1 := hS.2.1; have h2 := hS.2.2; unfold iZ at a12 ⊢; omega⟩
  · obtain ⟨g1, r', s, g2, g3, g4, g5⟩ := a4.2.2.2 p' hp'
    by_cases e : p' = p
    · subst e
      have e1 : ∀ j, 1 ≤ j → j < 4 → J (T + 7 + 9 * p' + j) = I (T + 7 + 9 * p' + j) := fun j h1 h2 => q.1 _ (by omega) (by omega) (by omega) (by omega) (by omega) (by omega) (by omega)
      have er : r' = r := by rw [g2] at hr; omega
      subst er
      exact ⟨pc_frame g1 (fun k hk => q.2 k (by omega) (by omega)) (e1 1 (by omega) (by omega)) (e1 2 (by omega) (by omega)) (e1 3 (by omega) (by omega)) (fun k _ _ => by rw [oT 159 (by omega) (by omega)]) (fun k _ _ => by rw [oT 165 (by omega) (by omega)]), r', s, by rw [q.2 3 (by omega) (by omega)]; exact g2, by rw [q.2 1 (by omega) (by omega)]; exact g3, tbM_of g4 (oT _ (by omega) (by omega)) (oT _ (by omega) (by omega)) (oT _ (by omega) (by omega)) (oT _ (by omega) (by omega)) (oT _ (by omega) (by omega)) (oT _ (by omega) (by omega)) (oT _ (by omega) (by omega)), ht⟩
    · have ej : ∀ j, j < 9 → J (T + 7 + 9 * p' + j) = I (T + 7 + 9 * p' + j) := fun j hj => q.1 _ (by omega) (by omega) (by omega) (by omega) (by omega) (by omega) (by omega)
      have e0 : J (T + 7 + 9 * p') = I (T + 7 + 9 * p') := ej 0 (by omega)
      refine ⟨pc_frame g1 (fun k _ => by rw [e0]) (ej 1 (by omega)) (ej 2 (by omega)) (ej 3 (by omega)) (fun k _ _ => by rw [oT 159 (by omega) (by omega)]) (fun k _ _ => by rw [oT 165 (by omega) (by omega)]), r', s, by rw [e0]; exact g2, by rw [e0]; exact g3, tbM_of g4 (oT _ (by omega) (by omega)) (oT _ (by omega) (by omega)) (oT _ (by omega) (by omega)) (oT _ (by omega) (by omega)) (oT _ (by omega) (by omega)) (oT _ (by omega) (by omega)) (oT _ (by omega) (by omega)), ?_⟩
      rcases g5 with g5 | g5
      · exact Or.inl (by rw [e0]; exact g5)
      · exact Or.inr (tbC_of g5 (by rw [e0]) (by rw [e0]) (ej 5 (by omega)) (ej 6 (by omega)) (ej 7 (by omega)) (ej 8 (by omega)) (oT _ (by omega) (by omega)) (oT _ (by omega) (by omega)) (oT _ (by omega) (by omega)))
  · unfold iR ruR at a5 ⊢
    rw [oT (T + 2) (by omega) (by omega), oT 156 (by omega) (by omega), oT 160 (by omega) (by omega), oT (T + 3) (by omega) (by omega)]
    exact a5
  · unfold iS stR at a6 ⊢
    rw [oT T (by omega) (by omega), oT 156 (by omega) (by omega), oT 161 (by omega) (by omega), oT (T + 4) (by omega) (by omega), oT (T + 5) (by omega) (by omega), oT (T + 6) (by omega) (by omega)]
    exact a6
/-- a study, with what holds -/
theorem st_IV (h : IV c T U n P R N I S) (hp : p < P) : ∃ (r : Nat) (J : Nat → Nat → Int) (S1 : PS), (r = 5 ∨ r = 6 ∨ r = 7) ∧ Ca 33 mX11_studied [vR (some (21, 0, 31)), vR (some (14, 0, T + 7 + 9 * p))] (I, S) (.inl (some (vR (some (14, 0, T + 7 + 9 * p))))) (J, S1) ∧ tbC J (T + 7 + 9 * p) p r ∧ suF (T + 7 + 9 * p) I J ∧ LyX11 S1 T U ∧ I (T + 7 + 9 * p) 3 = (r : Int) ∧ rfS S S1 ∧ IV c T U n P R N J S1 := by
  obtain ⟨l1, l2, hT⟩ := IV_L h
  obtain ⟨g1, r, s, g2, g3, g4, g5⟩ := (IV_P h).2.2.2 p hp
  obtain ⟨q1, q2, q3, q4⟩ := IV_G h
  obtain ⟨H, s', r', cc, e1, e2, e3, e4⟩ := id g1
  have hP4 := (IV_P h).1
  have hr : r = 5 ∨ r = 6 ∨ r = 7 := by omega
  obtain ⟨J, S1, a1, a2, a3, a4, a5⟩ := st_C (d := 10) (A := T + 7 + 9 * p) (p := p) (r := r) (s := s) l1 (ly_X0_q (ly_X11_c l1) (show p < 4 by omega)) (by omega) (by omega) (by omega) g1 g2 g3 g4 (fun no j a b => (q2 no j a b).1) q1 g5
  exact ⟨r, J, S1, hr, a1, a2, a3, LyX11_of l1 a5.2.1 (by omega) (by omega) (by omega) (by omega), g2, a5.2, IV_su h hp g2 a3 (Or.inr a2) a4 a5.2⟩
end
end
