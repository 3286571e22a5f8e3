/-! ===== the atlas: what changes places, and how reading begins ===== -/
noncomputable section
def atZ (Y : Nat → Nat → Int) (m : Int) : Nat → Nat → Int := up2 (up2 (up2 (up2 (up2 (up2 (up2 (up2 Y 156 2 0) 156 4 (-1)) 156 3 0) 156 6 m) 156 7 0) 156 16 0) 156 17 0) 156 18 0
section
variable {d : Nat} {I J K X Y Z : Nat → Nat → Int} {S S' : PS} {c T U n P R N p r s m q : Nat} {x1 : Int} {t : Nat → Int}
theorem LyX11_sw (h : LyX11 S T U) (hT : 32 ≤ T) (hU : 32 ≤ U) (e2 : S'.1 31 2 = some (11, 0, U)) (e3 : S'.1 31 3 = some (11, 0, T)) (e0 : ∀ k, k ≠ 2 → k ≠ 3 → S'.1 31 k = S.1 31 k) (e : ∀ b, b ≠ 31 → S'.1 b = S.1 b) : LyX11 S' U T := by
  unfold LyX11 at h
  obtain ⟨h1, h2, h3, h4, h5, h6, h7, h8, h9, h10, h11, h12, h13, h14, h15, h16, h17⟩ := h
  have hx : ∀ a, 32 ≤ a → LyX0 S a → LyX0 S' a := fun a ha w => by
    unfold LyX0 LyX3 LyX7 at w ⊢
    rw [e a (by omega), e (a + 1) (by omega), e (a + 2) (by omega)]
    obtain ⟨g1, g2, g3, g4, g5, g6, g7⟩ := w
    exact ⟨g1, g2, g3, g4, g5, fun i hi => by rw [e (a + 7 + 9 * i) (by omega)]; exact g6 i hi, g7⟩
  refine ⟨by rw [e0 0 (by decide) (by decide)]; exact h1, e2, e3, by rw [e0 4 (by decide) (by decide)]; exact h4, by rw [e0 5 (by decide) (by decide)]; exact h5, by rw [e0 6 (by decide) (by decide)]; exact h6, by rw [e0 7 (by decide) (by decide)]; exact h7, by rw [e0 9 (by decide) (by decide)]; exact h8, by rw [e0 10 (by decide) (by decide)]; exact h9, by rw [e0 11 (by decide) (by decide)]; exact h10, by rw [e0 12 (by decide) (by decide)]; exact h11, by rw [e0 13 (by decide) (by decide)]; exact h12, by rw [e0 14 (by decide) (by decide)]; exact h13, ?_, hx U hU h16, hx T hT h15, ?_⟩
  · unfold LyX10 at h14 ⊢
    rw [e 32 (by decide)]; exact h14
  · unfold LyX1 LyX9 LyX8 LyX4 LyX2 at h17 ⊢
    rw [e 121 (by decide), e 126 (by decide), e (126 + 1) (by decide), e 135 (by decide), e (135 + 1) (by decide), e 144 (by decide), e 145 (by decide), e 147 (by decide), e 148 (by decide)]
    exact h17
theorem LyX12_sw (h : LyX12 S) (e : ∀ b, b ≠ 31 → S'.1 b = S.1 b) : LyX12 S' := by
  unfold LyX12 at h ⊢
  rw [e 156 (by decide)]
  exact h
theorem rgI_sw (h : rgI I S) (e : ∀ b, b ≠ 31 → S'.1 b = S.1 b) (e2 : S'.2 = S.2) : rgI I S' := by
  obtain ⟨h1, h2, h3⟩ := h
  refine ⟨by rw [e2]; exact h1, fun i hi => ?_, fun i j a b hi hj hij ha hb => ?_⟩
  · rw [e 120 (by decide)]
    exact (h2 i hi).elim Or.inl (fun ⟨a, a1, a2, a3, a4⟩ => Or.inr ⟨a, a1, a2, by rw [e2]; exact a3, rngO_of a4 a2 (fun _ _ _ => rfl) (fun _ _ _ => rfl) (e a (by omega)) (by rw [e2])⟩)
  · rw [e 120 (by decide)] at ha hb
    exact h3 i j a b hi hj hij ha hb
theorem rnN_sw (e : ∀ b, b ≠ 31 → S'.1 b = S.1 b) : rnN S' = rnN S := by
  unfold rnN
  rw [e 120 (by decide)]
theorem strs_sw (h : strs I S) (e : ∀ b, b ≠ 31 → S'.1 b = S.1 b) : strs I S' := by
  unfold strs isStr at h ⊢
  rw [e 4 (by decide), e 6 (by decide), e 8 (by decide), e 10 (by decide), e 12 (by decide), e 14 (by decide), e 16 (by decide), e 18 (by decide), e 20 (by decide), e 22 (by decide), e 24 (by decide), e 26 (by decide), e 28 (by decide)]
  exact h
theorem atZ_o {v : Int} {a : Nat} (h : a ≠ 156) : atZ Y v a = Y a := by
  unfold atZ
  exact funext (fun j => by rw [up2_a _ h, up2_a _ h, up2_a _ h, up2_a _ h, up2_a _ h, up2_a _ h, up2_a _ h, up2_a _ h])
theorem atZ_k {v : Int} {k : Nat} (h2 : k ≠ 2) (h3 : k ≠ 3) (h4 : k ≠ 4) (h6 : k ≠ 6) (h7 : k ≠ 7) (h16 : k ≠ 16) (h17 : k ≠ 17) (h18 : k ≠ 18) : atZ Y v 156 k = Y 156 k := by
  unfold atZ
  rw [up2_k _ h18, up2_k _ h17, up2_k _ h16, up2_k _ h7, up2_k _ h6, up2_k _ h3, up2_k _ h4, up2_k _ h2]
theorem at_go (hl0 : LyX12 S) (ht : Y 157 = t) (hb : ∀ k, 0 ≤ t k ∧ t k ≤ 255) (hm : m ≤ 700) (hx : X U 1 = 0 ∧ X (U + 2) 0 = 0 ∧ X U 6 = 0) : Ca 7 mX12_goes [vR (some (22, 0, 156))] (atZ Y (m : Int), S) (.inl none) (gsI (atZ Y (m : Int)), S) ∧ rrY t m 0 U 0 0 0 X (gsI (atZ Y (m : Int))) ∧ (∀ a, a ≠ 156 → gsI (atZ Y (m : Int)) a = Y a) ∧ ∀ k, ¬gsK k → gsI (atZ Y (m : Int)) 156 k = atZ Y (m : Int) 156 k := by
  have e157 : atZ Y (m : Int) 157 = t := (atZ_o (by decide)).trans ht
  obtain ⟨g1, g2, g3, g4⟩ := go_M (d := 6) (S := S) (J := atZ Y (m : Int)) (t := t) (n := m) (q := 0) hl0 e157 hb rfl rfl hm (Nat.zero_le m)
  refine ⟨g1, ⟨⟨⟨by omega, by omega, by omega⟩, hx, ⟨?_, ?_, ?_⟩, fun p hp => absurd hp (by omega), fun r hr => absurd hr (by omega), fun s hs => absurd hs (by omega)⟩, g2, ?_, ?_⟩, fun a ha => by rw [g3 a ha]; exact atZ_o ha, g4⟩
  · rw [g4 16 (by unfold gsK; omega)]; rfl
  · rw [g4 17 (by unfold gsK; omega)]; rfl
  · rw [g4 18 (by unfold gsK; omega)]; rfl
  · rw [g4 3 (by unfold gsK; omega)]; rfl
  · rw [g3 157 (by decide)]; exact e157
theorem at_M (hl0 : LyX12 S) (hm : (m : Int) ≤ Y 156 2) {v : Int} {h1 : PM} (g : Ca 7 mX12_goes [vR (some (22, 0, 156))] (atZ (up2 Y 156 0 0) (m : Int), S) (.inl none) (X, S)) (k : L_X12_atlas_76 0 156 (m : Int) X S v h1) : Ca 8 mX12_atlas [vR (some (22, 0, 156)), vI (m : Int)] (Y, S) (.inl (some (vI v))) h1 :=
  w_X12_atlas_0 (d := 0) hl0 (fun _ => w_X12_atlas_32 hl0 g k) (r1 := fun q => absurd ⟨by omega, hm⟩ q) (e1 := fun q => absurd ⟨by omega, hm⟩ q)
theorem at_N (hl0 : LyX12 S) (w : ¬(0 ≤ x1 ∧ x1 ≤ Y 156 2)) : Ca 8 mX12_atlas [vR (some (22, 0, 156)), vI x1] (Y, S) (.inl (some (vI 0))) (up2 (up2 Y 156 0 0) 156 0 1, S) :=
  w_X12_atlas_0 (d := 0) hl0 (fun q => absurd q w) (r1 := fun _ => rfl) (e1 := fun _ => rfl)
/-- the class behind a text that is a map -/
def alC (J : Nat → Nat → Int) (U : Nat) : Nat → Nat → Int := up2 (up2 (up2 (bgI (up2 J 31 15 (-1)) (U + 2)) 31 8 0) 147 6 0) 147 5 (-1)
theorem alC_f (hU : U = 34 ∨ U = 77) (hr : J (U + 2) 0 = (R : Int)) : (∀ a, a ≠ 31 → a ≠ 126 → a ≠ 128 → a ≠ 129 → a ≠ 147 → alC J U a = J a) ∧ (∀ k, k ≠ 8 → k ≠ 15 → alC J U 31 k = J 31 k) ∧ alC J U 31 8 = 0 ∧ alC J U 31 15 = -1 ∧ alC J U 126 2 = 0 ∧ alC J U 126 6 = 0 ∧ (∀ k, k < 4 → alC J U 128 k = 0) ∧ (∀ r, r < R → alC J U 129 r = J (U + 3) (8 * r)) ∧ (∀ k, k ≠ 5 → k ≠ 6 → alC J U 147 k = J 147 k) ∧ alC J U 147 5 = -1 ∧ alC J U 147 6 = 0 := by
  obtain ⟨B, hB⟩ : ∃ B, B = up2 J 31 15 (-1) := ⟨_, rfl⟩
  have bo : ∀ a, a ≠ 31 → B a = J a := fun a h => by rw [hB]; exact funext (fun j => up2_a _ h)
  have eb : ∀ a, a ≠ 126 → a ≠ 128 → a ≠ 129 → bgI B (U + 2) a = B a := fun a h1 h2 h3 => by
    unfold bgI
    exact (funext (fun j => by rw [up2_a _ h1, up2_a _ h1, up1_o _ h3, up1_o _ h2]))
  have o : ∀ a, a ≠ 31 → a ≠ 147 → alC J U a = bgI B (U + 2) a := fun a h1 h2 => by
    unfold alC
    rw [← hB]
    exact funext (fun j => by rw [up2_a _ h2, up2_a _ h2, up2_a _ h1])
  refine ⟨fun a h1 h2 h3 h4 h5 => by rw [o a h1 h5, eb a h2 h3 h4, bo a h1], fun k h1 h2 => ?_, ?_, ?_, ?_, ?_, fun k hk => ?_, fun r hr' => ?_, fun k h1 h2 => ?_, ?_, ?_⟩
  · unfold alC
    rw [← hB, up2_a _ (by decide), up2_a _ (by decide), up2_k _ h1, eb 31 (by decide) (by decide) (by decide), hB, up2_k _ h2]
  · unfold alC
    rw [up2_a _ (by decide), up2_a _ (by decide), up2_same]
  · unfold alC
    rw [← hB, up2_a _ (by decide), up2_a _ (by decide), up2_k _ (by decide), eb 31 (by decide) (by decide) (by decide), hB, up2_same]
  · rw [o 126 (by decide) (by decide)]
    unfold bgI
    rw [up2_k _ (by decide), up2_same]
  · rw [o 126 (by decide) (by decide)]
    unfold bgI
    rw [up2_same]
  · rw [o 128 (by decide) (by decide)]
    unfold bgI
    rw [up2_a _ (by decide), up2_a _ (by decide), up1_o _ (by decide), up1_same, upTo_in (by omega)]
  · rw [o 129 (by decide) (by decide)]
    unfold bgI
    rw [up2_a _ (by decide), up2_a _ (by decide), up1_same, bo (U + 2) (by omega), hr, Int.toNat_natCast, upTo_in (by omega), bo (U + 2 + 1) (by omega)]
  · unfold alC
    rw [up2_k _ h1, up2_k _ h2, up2_a _ (by decide), ← hB, eb 147 (by decide) (by decide) (by decide), bo 147 (by decide)]
  · unfold alC
    rw [up2_same]
  · unfold alC
    rw [up2_k _ (by decide), up2_same]
/-- a state that was just begun -/
theorem saR_0 {row kept nts : Nat → Int} {ac nn : Int} (hN : N ≤ 12) (h128 : ∀ k, k < 4 → I (s + 2) k = 0) (h129 : ∀ r, r < R → I (s + 3) r = row (12 + r) ∧ 1 ≤ row (12 + r) ∧ row (12 + r) ≤ 99) (h2 : I s 2 = 0) (h6 : I s 6 = 0) (hrow : ∀ i, i < 12 → row i = -1) (ha : ac = 0) (hn : nn = 0) : saR I s N R row kept nts ac nn := by
  refine ⟨⟨⟨hN, fun i hi => by rw [hrow i (by omega)]; decide⟩, fun c hc => ?_⟩, h129, ⟨0, by omega, h2, ha, fun k hk => absurd hk (by omega)⟩, 0, by omega, h6, hn, fun i hi => absurd hi (by omega)⟩
  rw [h128 c hc]
  refine ⟨by unfold isI; omega, fun i => ?_⟩
  rw [bt_zero]
  by_cases q : i < N
  · rw [hrow i (by omega), decide_eq_true q, Bool.true_and]
    exact (decide_eq_false (by omega)).symm
  · rw [decide_eq_false q, Bool.false_and]
end
end
