/-! ===== the ring of a piece ===== -/
noncomputable section
/-- rings that were made -/
def rgI (I : Nat → Nat → Int) (S : PS) : Prop := 192 ≤ S.2.2.1 ∧ (∀ i, i < 3 → S.1 120 i = none ∨ ∃ a, S.1 120 i = some (16, 0, a) ∧ 192 ≤ a ∧ a + 5 ≤ S.2.2.1 ∧ rngO I S a (5 + i)) ∧ ∀ i j a b, i < 3 → j < 3 → i ≠ j → S.1 120 i = some (16, 0, a) → S.1 120 j = some (16, 0, b) → a + 5 ≤ b ∨ b + 5 ≤ a
/-- how many rings aren't made yet -/
def rnN (S : PS) : Nat := (if S.1 120 0 = none then 1 else 0) + (if S.1 120 1 = none then 1 else 0) + (if S.1 120 2 = none then 1 else 0)
/-- what making a ring leaves alone -/
def rfF (I : Nat → Nat → Int) (S : PS) (J : Nat → Nat → Int) (S' : PS) : Prop := (∀ b, b < 192 → J b = I b) ∧ (∀ b, b < 192 → b ≠ 120 → S'.1 b = S.1 b) ∧ S'.2.2.2.1 + 5 * rnN S' ≤ S.2.2.2.1 + 5 * rnN S ∧ S'.2.2.2.2 + 4745 * rnN S' ≤ S.2.2.2.2 + 4745 * rnN S
section
variable {d : Nat} {I J K : Nat → Nat → Int} {S S' : PS} {r : PO × PM}
theorem rngO_of {a q : Nat} (h : rngO I S a q) (ha : 192 ≤ a) (hJ : ∀ b, a ≤ b → b < a + 5 → J b = I b) (hJ0 : ∀ b, 1 ≤ b → b < 4 → J b = I b) (hS : S'.1 a = S.1 a) (hS2 : S'.2.1 (a + 3) = S.2.1 (a + 3)) : rngO J S' a q := by
  obtain ⟨h1, h2, h3, h4, h5, ⟨h6, h7⟩, h8⟩ := h
  have er : rc S' a = rc S a := by unfold rc; rw [hS2]
  refine ⟨?_, ?_, ?_, by rw [er]; exact h4, ?_, ⟨fun no j h1 h2 => by rw [hJ0 no h1 h2]; exact h6 no j h1 h2, ?_⟩, ?_⟩
  · unfold LyX6 at h1 ⊢
    rw [er, hS]; exact h1
  · rw [hJ a (by omega) (by omega)]; exact h2
  · rw [hJ a (by omega) (by omega)]; exact h3
  · rw [hJ (a + 1) (by omega) (by omega)]; exact h5
  · rw [hJ (a + 3) (by omega) (by omega), hJ (a + 4) (by omega) (by omega)]; exact h7
  · rw [hJ (a + 4) (by omega) (by omega)]; exact h8
theorem rgI_of (h : rgI I S) (hJ : ∀ b, 192 ≤ b → J b = I b) (hJ0 : ∀ b, 1 ≤ b → b < 4 → J b = I b) : rgI J S := ⟨h.1, fun i hi => (h.2.1 i hi).elim Or.inl (fun ⟨a, a1, a2, a3, a4⟩ => Or.inr ⟨a, a1, a2, a3, rngO_of a4 a2 (fun b b1 _ => hJ b (by omega)) hJ0 rfl rfl⟩), h.2.2⟩
theorem rgI_exS (h : rgI I S) : rgI I (exS S) := ⟨h.1, fun i hi => (h.2.1 i hi).elim Or.inl (fun ⟨a, a1, a2, a3, a4⟩ => Or.inr ⟨a, a1, a2, a3, rngO_of a4 a2 (fun b b1 _ => rfl) (fun b b1 _ => rfl) rfl rfl⟩), h.2.2⟩
theorem b_X11_ringOf_0 {A q : Nat} (hq : q = 5 ∨ q = 6 ∨ q = 7) (h3 : I A 3 = (q : Int)) (hL : S.1 31 4 = some (4, 3, 120)) (kt : ∀ w a, S.1 120 (q - 5) = w → w = some (16, 0, a) → Ev d mX11_ringOf (45, [some (vR (some (21, 0, 31))), some (vR (some (14, 0, A))), some (vI ((q - 5 : Nat) : Int)), some (vR w)], [], (I, S)) r) (kf : S.1 120 (q - 5) = none → Ev d mX11_ringOf (27, [some (vR (some (21, 0, 31))), some (vR (some (14, 0, A))), some (vI ((q - 5 : Nat) : Int)), some (vR none)], [], (I, S)) r) (hw : S.1 120 (q - 5) = none ∨ ∃ a, S.1 120 (q - 5) = some (16, 0, a)) : Ev d mX11_ringOf (0, [some (vR (some (21, 0, 31))), some (vR (some (14, 0, A))), none, none], [], (I, S)) r := by
  have e1 : p_max 0 (p_sub (p_min (I A 3) 7) 5) = ((q - 5 : Nat) : Int) := by rw [h3]; rcases hq with h | h | h <;> rw [h] <;> decide
  refine s_iconst rfl rfl (s_aload_n rfl rfl rfl (s_getI rfl rfl rfl (s_bipush rfl rfl (s_mm rfl rfl (Or.inr ⟨rfl, rfl⟩) rfl (s_iconst rfl rfl (s_isub rfl (s_mm rfl rfl (Or.inl ⟨rfl, rfl⟩) rfl ?_)))))))
  show Ev d mX11_ringOf (15, [some (vR (some (21, 0, 31))), some (vR (some (14, 0, A))), none, none], [vI (p_max 0 (p_sub (p_min (I A 3) 7) 5))], (I, S)) r
  rw [e1]
  have ht : (((q - 5 : Nat) : Int)).toNat = q - 5 := Int.toNat_natCast _
  refine s_istore_n [some (vR (some (21, 0, 31))), some (vR (some (14, 0, A))), some (vI ((q - 5 : Nat) : Int)), none] rfl rfl (s_aload_n rfl rfl rfl (s_getR rfl rfl rfl hL (s_iload_n rfl rfl rfl ?_)))
  rcases hw with hw | ⟨a, hw⟩
  · exact s_aald rfl rfl (by omega) (show S.1 120 ((q - 5 : Nat) : Int).toNat = none by rw [ht]; exact hw) (s_astore_n [some (vR (some (21, 0, 31))), some (vR (some (14, 0, A))), some (vI ((q - 5 : Nat) : Int)), some (vR none)] rfl rfl (s_aload_n rfl rfl rfl (s_nn_n rfl rfl (kf hw))))
  · exact s_aald rfl rfl (by omega) (show S.1 120 ((q - 5 : Nat) : Int).toNat = some (16, 0, a) by rw [ht]; exact hw) (s_astore_n [some (vR (some (21, 0, 31))), some (vR (some (14, 0, A))), some (vI ((q - 5 : Nat) : Int)), some (vR (some (16, 0, a)))] rfl rfl (s_aload_n rfl rfl rfl (s_nn_y 45 rfl rfl rfl (kt _ a hw rfl))))
theorem b_X11_ringOf_37' {A a : Nat} {q : Nat} {h : PM} (hr1 : h.2.1 31 4 = some (4, 3, 120)) (hq : q - 5 < 3) {w3 : Rf} (k : Ev d mX11_ringOf (45, [some (vR (some (21, 0, 31))), some (vR (some (14, 0, A))), some (vI ((q - 5 : Nat) : Int)), some (vR (some (16, 0, a)))], [], m_sr h 120 (q - 5) (some (16, 0, a))) r) : Ev d mX11_ringOf (37, [some (vR (some (21, 0, 31))), some (vR (some (14, 0, A))), some (vI ((q - 5 : Nat) : Int)), some (vR w3)], [vR (some (16, 0, a))], h) r := by
  have ht : (((q - 5 : Nat) : Int)).toNat = q - 5 := Int.toNat_natCast _
  refine s_astore_n [some (vR (some (21, 0, 31))), some (vR (some (14, 0, A))), some (vI ((q - 5 : Nat) : Int)), some (vR (some (16, 0, a)))] rfl rfl (s_aload_n rfl rfl rfl (s_getR rfl rfl rfl hr1 (s_iload_n rfl rfl rfl (s_aload_n rfl rfl rfl (s_aast rfl rfl (by omega) ?_)))))
  rw [ht]
  exact k
theorem b_X11_ringOf_45 {A a : Nat} {x2 : Int} {h : PM} : Ev d mX11_ringOf (45, [some (vR (some (21, 0, 31))), some (vR (some (14, 0, A))), some (vI x2), some (vR (some (16, 0, a)))], [], h) (.inl (some (vR (some (16, 0, a)))), h) := s_aload_n rfl rfl rfl (s_aret rfl rfl)
theorem ro_C {A q : Nat} (hq : q = 5 ∨ q = 6 ∨ q = 7) (h3 : I A 3 = (q : Int)) (hL : S.1 31 4 = some (4, 3, 120)) (hsw : ∀ no j : Nat, 1 ≤ no → no < 4 → I no j = (swE no j : Int)) (hR : rgI I S) : ∃ a J S', Ca (d + 10) mX11_ringOf [vR (some (21, 0, 31)), vR (some (14, 0, A))] (I, S) (.inl (some (vR (some (16, 0, a))))) (J, S') ∧ (192 ≤ a ∧ rngO J S' a q ∧ S'.1 120 (q - 5) = some (16, 0, a)) ∧ rgI J S' ∧ rfF I S J S' := by
  have hi : q - 5 < 3 := by omega
  have hq5 : 5 + (q - 5) = q := by omega
  rcases hR.2.1 (q - 5) hi with hw | ⟨a, hw, w1, w2, w3⟩
  · obtain ⟨s1, s2, nx, ce, sl⟩ := S
    have hw : s1 120 (q - 5) = none := hw
    have hL : s1 31 4 = some (4, 3, 120) := hL
    have hnx : 192 ≤ nx := hR.1
    obtain ⟨S1, hS1⟩ : ∃ S1 : PS, S1 = (up1 s1 nx (fun _ => none), up1 s2 nx (16, 0), nx + 1, ce + 1, sl + 6) := ⟨_, rfl⟩
    have hln := ln_le hq
    obtain ⟨J, S', c1, c2, c3, c4, c5, c6⟩ := ri_C (d := d) (I := up1 I nx (fun _ => 0)) (S := S1) (a := nx) (q := q) hq (by rw [hS1]) (by omega) (fun no j h1 h2 => by rw [up1_o _ (by omega)]; exact hsw no j h1 h2)
    have kI : ∀ b, b < nx → J b = I b := fun b hb => by rw [(c3 b hb).1, up1_o _ (by omega)]
    have kS : ∀ b, b < nx → S'.1 b = s1 b := fun b hb => by rw [(c3 b hb).2.1, hS1]; exact up1_o _ (by omega)
    have kT : ∀ b, b < nx → S'.2.1 b = s2 b := fun b hb => by rw [(c3 b hb).2.2, hS1]; exact up1_o _ (by omega)
    obtain ⟨S2, hS2⟩ : ∃ S2 : PS, S2 = (up2 S'.1 120 (q - 5) (some (16, 0, nx)), S'.2) := ⟨_, rfl⟩
    have e1 : ∀ b, b ≠ 120 → S2.1 b = S'.1 b := fun b hb => by rw [hS2]; funext j; exact up2_a _ hb
    have e2 : ∀ b, S2.2.1 b = S'.2.1 b := fun b => by rw [hS2]
    have e5 : S2.1 120 (q - 5) = some (16, 0, nx) := by rw [hS2]; exact up2_same _ _ _ _
    have e6 : ∀ j, j ≠ q - 5 → S2.1 120 j = s1 120 j := fun j hj => by rw [hS2, show (up2 S'.1 120 (q - 5) (some (16, 0, nx)), S'.2).1 120 j = S'.1 120 j from up2_k _ hj, kS 120 (by omega)]
    have en : S2.2.2.1 = nx + 5 := by rw [hS2]; exact c4
    have r0 : rngO J S2 nx q := rngO_of c2 hnx (fun _ _ _ => rfl) (fun _ _ _ => rfl) (e1 nx (by omega)) (e2 _)
    refine ⟨nx, J, S2, ?_, ⟨hnx, r0, e5⟩, ⟨by rw [en]; omega, fun i hi' => ?_, fun i j a b hi' hj' hij ha hb => ?_⟩, fun b hb => kI b (by omega), fun b hb hb2 => by rw [e1 b hb2]; exact kS b (by omega), ?_, ?_⟩
    · refine Ca.of rfl rfl (b_X11_ringOf_0 hq h3 hL (fun w a' h1 h2 => absurd (hw.symm.trans (h1.trans h2)) (by simp)) (fun _ => ?_) (Or.inl hw))
      refine b_X11_ringOf_27 (d := d + 9) (h1 := (J, S')) (by omega) ?_ ?_
      · have e : p_add ((q - 5 : Nat) : Int) 5 = (q : Int) := by rw [p_add_eq (by omega)]; omega
        have e' : ((q - 5 : Nat) : Int) + 5 = (q : Int) := by omega
        rw [e']
        rw [hS1] at c1
        exact c1
      · refine b_X11_ringOf_37' (h := (J, S')) (by show S'.1 31 4 = _; rw [kS 31 (by omega)]; exact hL) hi ?_
        rw [show m_sr (J, S') 120 (q - 5) (some (16, 0, m_sz (I, s1, s2, nx, ce, sl))) = (J, S2) by rw [hS2]; rfl]
        exact b_X11_ringOf_45
    · by_cases hiq : i = q - 5
      · rw [hiq]
        exact Or.inr ⟨nx, e5, hnx, by rw [en]; omega, by rw [hq5]; exact r0⟩
      · rw [e6 i hiq]
        rcases hR.2.1 i hi' with g | ⟨b, b1, b2, b3, b4⟩
        · exact Or.inl g
        · have b3 : b + 5 ≤ nx := b3
          exact Or.inr ⟨b, b1, b2, by rw [en]; omega, rngO_of b4 b2 (fun z z1 z2 => kI z (by omega)) (fun z z1 z2 => kI z (by omega)) (by rw [e1 b (by omega)]; exact kS b (by omega)) (by rw [e2]; exact kT _ (by omega))⟩
    · have own : ∀ x, S2.1 120 (q - 5) = some (16, 0, x) → x = nx := fun x hx => (Prod.mk.inj (Prod.mk.inj (Option.some.inj (hx.symm.trans e5))).2).2
      have old : ∀ j x, j < 3 → j ≠ q - 5 → S2.1 120 j = some (16, 0, x) → x + 5 ≤ nx := fun j x hj hn hx => by
        rw [e6 j hn] at hx
        rcases hR.2.1 j hj with g | ⟨b, b1, b2, b3, b4⟩
        · exact absurd (g.symm.trans hx) (by simp)
        · have e : x = b := (Prod.mk.inj (Prod.mk.inj (Option.some.inj (hx.symm.trans b1))).2).2
          rw [e]
          exact b3
      by_cases h1 : i = q - 5
      · subst h1
        have := own a ha
        have := old j b hj' (fun e => hij e.symm) hb
        omega
      · by_cases h2 : j = q - 5
        · subst h2
          have := own b hb
          have := old i a hi' h1 ha
          omega
        · rw [e6 i h1] at ha
          rw [e6 j h2] at hb
          exact hR.2.2 i j a b hi' hj' hij ha hb
    · have hce : S2.2.2.2.1 = ce + 5 := by rw [hS2]; show S'.2.2.2.1 = _; rw [c5, hS1]
      have hn : rnN S2 + 1 = rnN (s1, s2, nx, ce, sl) := by
        unfold rnN
        show (if S2.1 120 0 = none then 1 else 0) + (if S2.1 120 1 = none then 1 else 0) + (if S2.1 120 2 = none then 1 else 0) + 1 = (if s1 120 0 = none then 1 else 0) + (if s1 120 1 = none then 1 else 0) + (if s1 120 2 = none then 1 else 0)
        rcases hq with h | h | h <;> subst h <;> rw [show S2.1 120 _ = _ from e5] <;> rw [hw] <;> simp [e6 0, e6 1, e6 2] <;> first | exact Nat.add_right_comm _ _ _ | rw [Nat.add_comm _ 1, ← Nat.add_assoc]
      rw [hce]
      show ce + 5 + 5 * rnN S2 ≤ ce + 5 * rnN (s1, s2, nx, ce, sl)
      omega
    · have hsl : S2.2.2.2.2 = sl + 6 + (98 + 51 * lnC q) := by rw [hS2]; show S'.2.2.2.2 = _; rw [c6, hS1]
      have hn : rnN S2 + 1 = rnN (s1, s2, nx, ce, sl) := by
        unfold rnN
        show (if S2.1 120 0 = none then 1 else 0) + (if S2.1 120 1 = none then 1 else 0) + (if S2.1 120 2 = none then 1 else 0) + 1 = (if s1 120 0 = none then 1 else 0) + (if s1 120 1 = none then 1 else 0) + (if s1 120 2 = none then 1 else 0)
        rcases hq with h | h | h <;> subst h <;> rw [show S2.1 120 _ = _ from e5] <;> rw [hw] <;> simp [e6 0, e6 1, e6 2] <;> first | exact Nat.add_right_comm _ _ _ | rw [Nat.add_comm _ 1, ← Nat.add_assoc]
      rw [hsl]
      show sl + 6 + (98 + 51 * lnC q) + 4745 * rnN S2 ≤ sl + 4745 * rnN (s1, s2, nx, ce, sl)
      omega
  · rw [hq5] at w3
    exact ⟨a, I, S, Ca.of rfl rfl (b_X11_ringOf_0 hq h3 hL (fun w a' h1 h2 => by
      have e : a' = a := by rw [← h1, hw] at h2; exact (Prod.mk.inj (Prod.mk.inj (Option.some.inj h2)).2).2.symm
      rw [h2, e]
      exact b_X11_ringOf_45) (fun w => absurd (hw.symm.trans w) (by simp)) (Or.inr ⟨a, hw⟩)), ⟨w1, w3, hw⟩, hR, fun _ _ => rfl, fun _ _ _ => rfl, Nat.le_refl _, Nat.le_refl _⟩
end
end
