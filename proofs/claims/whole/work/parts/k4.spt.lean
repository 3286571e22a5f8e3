/-! ===== a spot is read: both, from the beginning ===== -/
noncomputable section
section
variable {d : Nat} {I J K X : Nat → Nat → Int} {S : PS} {U n N q : Nat} {t A : Nat → Int}
/-- a spot that is read, from the token behind its word -/
def spR (t : Nat → Int) (n N q : Nat) (A : Nat → Int) : (Int × Nat) ⊕ (Nat × Nat × (Nat → Int)) := spE t n (spL t n N 10 0 q A)
theorem sc_C (hU : U = 34 ∨ U = 77) (hl0 : LyX10 S) (hl1 : LyX0 S U) (hx : txR (X 33) t) (hn : n ≤ 700) (hN : N < 12) (hq : q ≤ n) (h1 : X 32 1 = (n : Int)) (h2 : X 32 2 = (q : Int)) (h6 : X U 6 = (N : Int)) : ∃ v J, Ca (d + 4) mX5_readSpot [vR (some (20, 0, 32)), vR (some (11, 0, U))] (X, S) (.inl (some (vI v))) (J, S) ∧ spG U N X J ∧ scP t n U N (spR t n N q A) v J := by
  have e6 : ∀ k w, (up2 X (U + 4) k w) U 6 = (N : Int) := fun k w => by rw [up2_a _ (by omega)]; exact h6
  have hb := c_X0_beginSpot (d := d + 3) (I := X) (S := S) (a0 := U) hl1 (by rw [h6]; omega) (by rw [e6]; omega)
  rw [e6, h6, Int.toNat_natCast] at hb
  have hc : spC (up2 (up2 X (U + 4) N 0) (U + 5) N 0) U N 0 A := by
    refine ⟨?_, ?_, ⟨?_, fun b hb' => ?_⟩, fun k hk => absurd hk (by omega)⟩
    · rw [up2_a _ (by omega), up2_a _ (by omega)]; exact h6
    · rw [up2_a _ (by omega), up2_same]; rfl
    · rw [up2_same]; exact isI_nat (m := 0) (by decide)
    · rw [up2_same]; exact bt_zero b
  have hG : spG U N X (up2 (up2 X (U + 4) N 0) (U + 5) N 0) := by
    refine ⟨fun a ha => ?_, fun k hk => ?_, fun s hs => ⟨?_, ?_⟩, fun k hk => ?_⟩
    · unfold spW at ha
      funext k
      rw [up2_a _ (by omega), up2_a _ (by omega)]
    · rw [up2_a _ (by omega), up2_a _ (by omega)]
    · rw [up2_a _ (by omega), up2_k _ hs]
    · rw [up2_k _ hs, up2_a _ (by omega)]
    · rw [up2_a _ (by omega), up2_a _ (by omega)]
  obtain ⟨v, J, q1, q2, q3⟩ := rs_C (d := d) hU hl0 hl1 hx hn hN 10 0 q A _ rfl (by decide) hq (by rw [up2_a _ (by omega), up2_a _ (by omega)]; exact h1) (by rw [up2_a _ (by omega), up2_a _ (by omega)]; exact h2) hc hG
  exact ⟨v, J, w_X5_readSpot_0 hl0 hl1 (fun _ => hb) (fun _ => q1) (r1 := fun w => absurd w (by omega)) (e1 := fun w => absurd w (by omega)), q2, q3⟩
theorem sc_12 (hl0 : LyX10 S) (hl1 : LyX0 S U) (h6 : X U 6 = 12) : Ca (d + 4) mX5_readSpot [vR (some (20, 0, 32)), vR (some (11, 0, U))] (X, S) (.inl (some (vI 2))) (X, S) :=
  w_X5_readSpot_0 (J1 := X) hl0 hl1 (fun w => absurd w (by omega)) (fun w => absurd w (by omega)) (r1 := fun _ => rfl) (e1 := fun _ => rfl)
theorem sm_M (hl0 : LyX12 S) (hb : ∀ k, 0 ≤ t k ∧ t k ≤ 255) (hn : n ≤ 700) (hN : N < 12) (hq : q ≤ n) (ht : X 157 = t) (hk : TKm X t n q) (h3 : X 156 3 = 0) (h164 : X 164 = A) (h18 : X 156 18 = (N : Int)) : ∃ J, Ca (d + 4) mX12_readsSpot [vR (some (22, 0, 156))] (X, S) (.inl none) (J, S) ∧ rdF X J ∧ spK X J ∧ smP t n N (spL t n N 10 0 q A) J := by
  by_cases k2 : tkK t n q = 2
  · obtain ⟨J, q1, q2, q3, q4⟩ := rs_M (d := d) hl0 hb hn hN 10 0 q A X rfl (by decide) (fun _ => k2) hq ht hk h3 h164 h18
    have e8 : X 156 8 = 2 := hk.2.2.2.1.trans (msK_2.mpr k2)
    exact ⟨J, w_X12_readsSpot_0 (J1 := X) hl0 (fun _ => by rw [h18]; exact q1) (fun w => absurd e8 w) (fun w => absurd e8 w) (v1 := by omega), q2, q3, q4⟩
  · have e8 : X 156 8 ≠ 2 := fun w => k2 (msK_2.mp (hk.2.2.2.1.symm.trans w))
    have e9 : X 156 9 = (tkS t n q : Int) := hk.2.2.1
    have w1 := wr_y (d := d + 3) (k := 1) hl0 h3
    rw [e9] at w1
    have b3 : ¬((up2 (up2 X 156 3 1) 156 4 (tkS t n q : Int)) 156 3 = 0) := fun w => absurd w (show ¬((1 : Int) = 0) by decide)
    have u : spL t n N 10 0 q A = .inl (1, q) := by
      show (if tkK t n q = 2 then _ else if (0 : Nat) = 0 then _ else _) = _
      rw [if_neg k2, if_pos rfl]
    refine ⟨up2 (up2 (up2 X 156 3 1) 156 4 (tkS t n q : Int)) 164 (10 * N) 0, w_X12_readsSpot_0 (J1 := up2 (up2 X 156 3 1) 156 4 (tkS t n q : Int)) hl0 (fun w => absurd w e8) (fun _ => w1) (fun _ => ?_) (v1 := by omega), ?_, ⟨fun a h1 h2 => ?_, by rw [up2_a _ (by decide)]; rfl, by rw [up2_a _ (by decide)]; rfl⟩, smP_inl u ?_ ?_ (by decide)⟩
    · rw [h18]
      refine w_X12_readsSpot_23 (J1 := X) hl0 (fun _ => ?_) (fun w => absurd w b3) (fun w => absurd w b3) (fun w => absurd w b3) (fun w => absurd w b3)
      refine w_X12_readsSpot_148 (J1 := X) hl0 (fun _ => ?_) (fun w => absurd w b3) (fun w => absurd w b3) (fun w => absurd w b3) (fun w => absurd w b3)
      exact w_X12_readsSpot_173 hl0 (e1 := fun _ => by rw [show (10 * (N : Int)).toNat = 10 * N by omega]) (e2 := fun w => absurd w b3) (v1 := by omega)
    · refine rdF_trans rdF_bad ⟨fun a h1 h2 h3 h4 h5 => funext (fun k => up2_a _ h4), fun k hk' => up2_a _ (by decide), erR_eq (up2_a _ (by decide)) (up2_a _ (by decide))⟩
    · funext k
      rw [up2_a _ h2, up2_a _ h1, up2_a _ h1]
    · rw [up2_a _ (by decide)]; rfl
    · rw [up2_a _ (by decide)]; exact up2_same _ _ _ _
end
end
