/-! ===== a call and what it comes to, both sides ===== -/
noncomputable section
/-- the class's call, then the reference's; ec: the law's number of an exception -/
def outC (c : Nat) (mc mr : Nat × Nat) (ec : Nat → Int) (av : List PV) (I : Nat → Nat → Int) (S : PS) : Prop := ∃ (k v : Int) (J : Nat → Nat → Int) (S' : PS), ((k = 0 ∧ Ca 60 mc (vR (some (21, 0, 31)) :: av) (I, S) (.inl (some (vI v))) (J, S')) ∨ (∃ e, k = ec e ∧ k ≠ 0 ∧ Ca 60 mc (vR (some (21, 0, 31)) :: av) (I, S) (.inr e) (J, S'))) ∧ ∀ Y, (∀ a, a ≠ 191 → Y a = J a) → Y 0 = I 0 ∧ ∃ b K, Ca 60 mr (vR (some (22, 0, 156)) :: av) (Y, S') (.inl (some (vI b))) (K, S') ∧ K 156 0 = k ∧ (k = 0 → b = v) ∧ K 191 = Y 191 ∧ ∃ T U n P R N, IV (c + 1) T U n P R N K S'
/-- NoSuchElement first -/
def ecN (e : Nat) : Int := if e = 1 then 1 else if e = 0 then 2 else 0
def ecI (e : Nat) : Int := if e = 1 then 1 else 0
/-- IllegalArgument alone; NoSuchElement first, then Arithmetic; none -/
def ecA (e : Nat) : Int := if e = 0 then 1 else 0
def ecR (e : Nat) : Int := if e = 1 then 1 else if e = 2 then 2 else 0
def ecZ (_ : Nat) : Int := 0
/-- what the reference leaves alone in a question -/
def fR (U : Nat) (Y K : Nat → Nat → Int) : Prop := fQ U Y K ∧ (∀ a, 192 ≤ a → K a = Y a) ∧ K 122 = Y 122 ∧ K 123 = Y 123
def rfS (S S' : PS) : Prop := (∀ b, b < 192 → b ≠ 120 → S'.1 b = S.1 b) ∧ S'.2.2.2.1 + 5 * rnN S' ≤ S.2.2.2.1 + 5 * rnN S ∧ S'.2.2.2.2 + 4745 * rnN S' ≤ S.2.2.2.2 + 4745 * rnN S
section
variable {I J K X Y Z : Nat → Nat → Int} {S S' : PS} {c T U n P R N : Nat} {mc mr : Nat × Nat} {ec : Nat → Int} {av : List PV}
theorem fQ_refl : fQ U I I := ⟨fun _ _ _ _ _ _ => rfl, fun _ _ => rfl, fun _ _ => rfl⟩
theorem fQ_trans (h : fQ U I J) (g : fQ U J K) : fQ U I K := ⟨fun a h1 h2 h3 h4 h5 => by rw [g.1 a h1 h2 h3 h4 h5]; exact h.1 a h1 h2 h3 h4 h5, fun k hk => by rw [g.2.1 k hk]; exact h.2.1 k hk, fun k hk => by rw [g.2.2 k hk]; exact h.2.2 k hk⟩
theorem fR_refl : fR U I I := ⟨fQ_refl, fun _ _ => rfl, rfl, rfl⟩
theorem fR_trans (h : fR U I J) (g : fR U J K) : fR U I K := ⟨fQ_trans h.1 g.1, fun a ha => (g.2.1 a ha).trans (h.2.1 a ha), g.2.2.1.trans h.2.2.1, g.2.2.2.trans h.2.2.2⟩
/-- fields of the reference that are no part of what holds -/
theorem fR_156 {k : Nat} {v : Int} (hk : ¬cr k) : fR U Y (up2 Y 156 k v) := ⟨⟨fun a _ _ h3 _ _ => funext (fun j => up2_a _ h3), fun j hj => up2_k _ (fun e => hk (e ▸ hj)), fun j _ => up2_a _ (by decide)⟩, fun a ha => funext (fun j => up2_a _ (by omega)), funext (fun j => up2_a _ (by decide)), funext (fun j => up2_a _ (by decide))⟩
theorem fR_0 {v : Int} : fR U Y (up2 Y 156 0 v) := fR_156 (by unfold cr; omega)
/-- scratch arrays -/
theorem fR_scr (h : ∀ a, ¬(scr a ∧ a ≠ 122 ∧ a ≠ 123) → K a = Y a) : fR U Y K := ⟨⟨fun a _ h2 _ _ _ => h a (fun e => h2 e.1), fun k _ => by rw [h 156 (by unfold scr; omega)], fun k _ => by rw [h 178 (by unfold scr; omega)]⟩, fun a ha => h a (by unfold scr; omega), h 122 (by omega), h 123 (by omega)⟩
theorem rfS_refl : rfS S S := ⟨fun _ _ _ => rfl, Nat.le_refl _, Nat.le_refl _⟩
theorem IV_r (h : IV c T U n P R N I S) (q : fR U I J) : IV c T U n P R N J S := by
  obtain ⟨a1, a2, a3, a4, a5, a6, a7, a8, a9, a10, a11, a12⟩ := h
  have hT := a1.2.2
  have q1 := q.1
  exact ⟨a1, iT_q a2 hT q1, iF_q a3 hT q1, iP_q a4 hT q1, iR_q a5 hT q1, iS_q a6 hT q1, iA_q a7 a6.1 a5.1 hT q1, iI_q a8 a6.1 a5.1 hT q1, iN_q a9 hT q1, iC_e a10 q.2.2.1 q.2.2.2, iG_q a11 hT q1 (rgI_of a11.1 q.2.1 (fun b b1 b2 => q1.1 b (by omega) (by unfold scr; omega) (by omega) (by omega) (by omega))) (fun _ _ _ => rfl), a12⟩
theorem mk_ok (h : IV c T U n P R N I S) {v : Int} (hc : Ca 60 mc (vR (some (21, 0, 31)) :: av) (I, S) (.inl (some (vI v))) (J, S')) (q : fQ U I J) (hC : iC J) (hR : rgI J S') (hS : rfS S S') (hm : ∀ Y, IV (c + 1) T U n P R N Y S' → (∀ a, a ≠ 191 → Y a = J a) → ∃ K, Ca 60 mr (vR (some (22, 0, 156)) :: av) (Y, S') (.inl (some (vI v))) (K, S') ∧ K 156 0 = 0 ∧ fR U Y K) : outC c mc mr ec av I S := by
  refine ⟨0, v, J, S', Or.inl ⟨rfl, hc⟩, fun Y hY => ?_⟩
  have hJ := IV_q h q hC hR hS.1 (by have := hS.2.1; omega) (by have := hS.2.2; omega)
  have hYI := IV_191 hJ hY
  obtain ⟨K, k1, k2, k3⟩ := hm Y hYI hY
  exact ⟨(hY 0 (by omega)).trans (q.1 0 (by omega) (by unfold scr; omega) (by omega) (by omega) (by have := hYI.1.2.2; omega)), v, K, k1, k2, fun _ => rfl, k3.1.1 191 (by omega) (by unfold scr; omega) (by omega) (by omega) (by have := hYI.1.2.2; omega), T, U, n, P, R, N, IV_r hYI k3⟩
theorem mk_thr (h : IV c T U n P R N I S) {e : Nat} (he : ec e ≠ 0) (hc : Ca 60 mc (vR (some (21, 0, 31)) :: av) (I, S) (.inr e) (J, exS S')) (q : fQ U I J) (hC : iC J) (hR : rgI J S') (hS : rfS S S') (hm : ∀ Y, IV (c + 1) T U n P R N Y (exS S') → (∀ a, a ≠ 191 → Y a = J a) → ∃ b K, Ca 60 mr (vR (some (22, 0, 156)) :: av) (Y, exS S') (.inl (some (vI b))) (K, exS S') ∧ K 156 0 = ec e ∧ fR U Y K) : outC c mc mr ec av I S := by
  refine ⟨ec e, 0, J, exS S', Or.inr ⟨e, rfl, he, hc⟩, fun Y hY => ?_⟩
  have hJ : IV (c + 1) T U n P R N J (exS S') := IV_q h q hC (rgI_exS hR) (fun b h1 h2 => hS.1 b h1 h2) (by have := hS.2.1; show S'.2.2.2.1 + 1 + 5 * rnN S' ≤ _; omega) (by have := hS.2.2; show S'.2.2.2.2 + 6 + 4745 * rnN S' ≤ _; omega)
  have hYI := IV_191 hJ hY
  obtain ⟨b, K, k1, k2, k3⟩ := hm Y hYI hY
  exact ⟨(hY 0 (by omega)).trans (q.1 0 (by omega) (by unfold scr; omega) (by omega) (by omega) (by have := hYI.1.2.2; omega)), b, K, k1, k2, fun w => absurd w he, k3.1.1 191 (by omega) (by unfold scr; omega) (by omega) (by omega) (by have := hYI.1.2.2; omega), T, U, n, P, R, N, IV_r hYI k3⟩
/-- both leave all but scratch alone, and the room is as it was -/
theorem mk_ok0 (h : IV c T U n P R N I S) {v : Int} (hc : Ca 60 mc (vR (some (21, 0, 31)) :: av) (I, S) (.inl (some (vI v))) (J, S)) (q : fR U I J) (hm : ∀ Y, IV (c + 1) T U n P R N Y S → (∀ a, a ≠ 191 → Y a = J a) → ∃ K, Ca 60 mr (vR (some (22, 0, 156)) :: av) (Y, S) (.inl (some (vI v))) (K, S) ∧ K 156 0 = 0 ∧ fR U Y K) : outC c mc mr ec av I S := by
  have hh := IV_r h q
  exact mk_ok h hc q.1 hh.2.2.2.2.2.2.2.2.2.1 hh.2.2.2.2.2.2.2.2.2.2.1.1 rfS_refl hm
theorem mk_thr0 (h : IV c T U n P R N I S) {e : Nat} (he : ec e ≠ 0) (hc : Ca 60 mc (vR (some (21, 0, 31)) :: av) (I, S) (.inr e) (J, exS S)) (q : fR U I J) (hm : ∀ Y, IV (c + 1) T U n P R N Y (exS S) → (∀ a, a ≠ 191 → Y a = J a) → ∃ b K, Ca 60 mr (vR (some (22, 0, 156)) :: av) (Y, exS S) (.inl (some (vI b))) (K, exS S) ∧ K 156 0 = ec e ∧ fR U Y K) : outC c mc mr ec av I S := by
  have hh := IV_r h q
  exact mk_thr h he hc q.1 hh.2.2.2.2.2.2.2.2.2.1 hh.2.2.2.2.2.2.2.2.2.2.1.1 rfS_refl hm
/-- parts -/
theorem IV_L (h : IV c T U n P R N I S) : LyX11 S T U ∧ LyX12 S ∧ ((T = 34 ∧ U = 77) ∨ (T = 77 ∧ U = 34)) := h.1
theorem IV_P (h : IV c T U n P R N I S) : iP I T P := h.2.2.2.1
theorem IV_R (h : IV c T U n P R N I S) : iR I T R := h.2.2.2.2.1
theorem IV_S (h : IV c T U n P R N I S) : iS I T N := h.2.2.2.2.2.1
theorem IV_A (h : IV c T U n P R N I S) : iA I N R := h.2.2.2.2.2.2.1
theorem IV_G (h : IV c T U n P R N I S) : iG I S := h.2.2.2.2.2.2.2.2.2.2.1
theorem iS_mSp (h : iS I T N) : mSp I := ⟨by rw [h.2.2.1]; have := h.1; omega, fun s h0 h1 => by
  rw [h.2.2.1] at h1
  obtain ⟨g, g1, g2, g3, g4, _⟩ := h.2.2.2.1 s.toNat (by omega)
  rw [show (10 * s).toNat = 10 * s.toNat by omega, g3]
  refine ⟨by omega, fun k hk => ?_⟩
  rw [show (((10 * s) + 1) + (k : Int)).toNat = 10 * s.toNat + 1 + k by omega]
  exact (g4 k (by omega)).2⟩
theorem iS_mNb (h : iS I T N) : mNb I := fun s h0 h1 k hk => by
  rw [h.2.2.1] at h1 ⊢
  have h5 := h.2.2.2.2 s.toNat k (by omega) (by rw [show 10 * s.toNat = (10 * s).toNat by omega]; exact hk)
  have h6 := (iS_mSp h).2 s h0 (by rw [h.2.2.1]; exact h1)
  have := (h6.2 k hk).1
  rw [show (((10 * s) + 1) + (k : Int)).toNat = 10 * s.toNat + 1 + k by omega] at this ⊢
  exact ⟨this, h5⟩
/-- the map told plainly -/
def adj0 (I : Nat → Nat → Int) (u i : Nat) : Bool := adM I u i
theorem iS_adM (h : iS I T N) {u i : Nat} (hu : u < N) (hi : i < 32) : adM I u i = bt (I (T + 5) u) i := by
  obtain ⟨g, g1, g2, g3, g4, g5, g6⟩ := h.2.2.2.1 u hu
  unfold adM
  rw [g6 i hi, show (10 * (u : Int)).toNat = 10 * u by omega, g3, Int.toNat_natCast]
  exact anyB_congr (fun k _ => by rw [show (((10 * (u : Int)) + 1) + (k : Int)).toNat = 10 * u + 1 + k by omega])
theorem iS_in (h : iS I T N) {u i : Nat} (hu : u < N) (ha : adM I u i = true) : i < N := by
  unfold adM at ha
  obtain ⟨k, hk, e⟩ := anyB_iff.mp ha
  have e := of_decide_eq_true e
  have hm := iS_mNb h (u : Int) (by omega) (by rw [h.2.2.1]; omega) k (by omega)
  rw [h.2.2.1] at hm
  omega
theorem iS_cAd (h : iS I T N) : cAd I T N (adM I) := ⟨h.2.1, h.1, fun u i hu => by
  by_cases q : i < 32
  · exact iS_adM h hu q
  · rw [bt_ge _ (by omega)]
    cases e : adM I u i with
    | false => rfl
    | true => have := iS_in h hu e; have := h.1; omega, fun u i hu ha => iS_in h hu ha⟩
theorem iS_mAd (h : iS I T N) : mAd I N (adM I) := ⟨h.2.2.1, h.1, iS_mSp h, iS_mNb h, fun _ _ _ _ => rfl, fun u i hu ha => iS_in h hu ha⟩
theorem iA_pnt (h : iA I N R) : pnt (I 128) (gR I 0) N := pnt_ext h.1 (fun i _ => by unfold gR; rw [show ((0 : Int) + (i : Int)).toNat = i by omega])
end
end
