/-! ===== a spot is read: the class's ===== -/
noncomputable section
def spE (t : Nat → Int) (n : Nat) (r : (Int × Nat) ⊕ (Nat × Nat × (Nat → Int))) : (Int × Nat) ⊕ (Nat × Nat × (Nat → Int)) := match r with
  | .inl x => .inl x
  | .inr (i, q, A) => if tkK t n q = 3 then (if i < 3 then .inl (2, q) else .inr (i, q, A)) else .inl (1, q)
section
variable {d : Nat} {I J K : Nat → Nat → Int} {S : PS} {U n N q : Nat} {t : Nat → Int}
theorem spG_trans (h : spG U N I J) (g : spG U N J K) : spG U N I K := ⟨fun a ha => by rw [g.1 a ha]; exact h.1 a ha, fun k hk => by rw [g.2.1 k hk]; exact h.2.1 k hk, fun s hs => ⟨by rw [(g.2.2.1 s hs).1]; exact (h.2.2.1 s hs).1, by rw [(g.2.2.1 s hs).2]; exact (h.2.2.1 s hs).2⟩, fun k hk => by rw [g.2.2.2 k hk]; exact h.2.2.2 k hk⟩
theorem spG_32 (hU : U = 34 ∨ U = 77) (h : ∀ a, a ≠ 32 → J a = I a) : spG U N I J := ⟨fun a ha => h a (fun e => ha (Or.inl e)), fun k _ => by rw [h U (by omega)], fun s _ => ⟨by rw [h (U + 4) (by omega)], by rw [h (U + 5) (by omega)]⟩, fun k _ => by rw [h (U + 6) (by omega)]⟩
theorem spC_32 (hU : U = 34 ∨ U = 77) {i : Nat} {A : Nat → Int} (h : ∀ a, a ≠ 32 → J a = I a) (hc : spC I U N i A) : spC J U N i A := by
  unfold spC
  rw [h U (by omega), h (U + 4) (by omega), h (U + 5) (by omega), h (U + 6) (by omega)]
  exact hc
/-- what reading a spot leaves in the class -/
def scP (t : Nat → Int) (n U N : Nat) (R : (Int × Nat) ⊕ (Nat × Nat × (Nat → Int))) (v : Int) (J : Nat → Nat → Int) : Prop := (∀ k q', R = .inl (k, q') → v = k ∧ J 32 4 = (tkS t n q' : Int) ∧ k ≠ 0) ∧ ∀ i q' A', R = .inr (i, q', A') → v = 0 ∧ J 32 1 = (n : Int) ∧ J 32 2 = (tkE t n q' : Int) ∧ J U 6 = (N : Int) + 1 ∧ spC (up2 J U 6 (N : Int)) U N i A' ∧ q' ≤ n
theorem scP_inl {k : Int} {q' : Nat} {R : (Int × Nat) ⊕ (Nat × Nat × (Nat → Int))} (hR : R = .inl (k, q')) (h4 : J 32 4 = (tkS t n q' : Int)) (hk : k ≠ 0) : scP t n U N R k J := by
  refine ⟨fun k' q'' e => ?_, fun i q'' A' e => ?_⟩
  · rw [hR] at e; cases e; exact ⟨rfl, h4, hk⟩
  · rw [hR] at e; cases e
theorem rs_C (hU : U = 34 ∨ U = 77) (hl0 : LyX10 S) (hl1 : LyX0 S U) (hx : txR (I 33) t) (hn : n ≤ 700) (hN : N < 12) : ∀ (f i q : Nat) (A : Nat → Int) (X : Nat → Nat → Int), f + i = 10 → i ≤ 9 → q ≤ n → X 32 1 = (n : Int) → X 32 2 = (q : Int) → spC X U N i A → spG U N I X → ∃ v J, L_X5_readSpot_17 d 32 U (i : Int) X S v (J, S) ∧ spG U N I J ∧ scP t n U N (spE t n (spL t n N f i q A)) v J := by
  intro f
  induction f with
  | zero => intro i q A X hf hi9; exact absurd hf (by omega)
  | succ f ih =>
    intro i q A X hf hi9 hq h1 h2 hc hG
    have hin := tk_in t hq
    have hx1 : txR (X 33) t := by rw [hG.1 33 (by unfold spW; omega)]; exact hx
    obtain ⟨a1, a2, a3⟩ := ad_C (d := d + 2) hl0 hx1 h1 h2 hn hq
    have hG1 := spG_trans hG (spG_32 (N := N) hU a3)
    have hc1 := spC_32 hU a3 hc
    have e3 := a2.2.2.2.1
    have e4 := a2.2.2.1
    have u : spL t n N (f + 1) i q A = if tkK t n q = 2 then
      (if nfK t n q 0 11 ≠ 0 ∨ 9 ≤ i then .inl (2, q)
       else if gsV t n q = (N : Int) ∨ anyB (fun k => decide (A (10 * N + 1 + k) = gsV t n q)) i = true then .inl (4, q)
       else spL t n N f (i + 1) (tkE t n q) (up1 A (10 * N + 1 + i) (gsV t n q)))
      else if i = 0 then .inl (1, q) else .inr (i, q, A) := rfl
    by_cases k3 : tkK t n q = 3 ∧ 0 < i
    · rw [if_neg (by omega), if_neg (by omega)] at u
      have x3 : adI X 32 3 = 3 := e3.trans k3.1
      by_cases hi3 : i < 3
      · have hR : spE t n (spL t n N (f + 1) i q A) = .inl (2, q) := by rw [u]; show (if tkK t n q = 3 then _ else _) = _; rw [if_pos k3.1, if_pos hi3]
        exact ⟨2, adI X, w_X5_readSpot_17 (J1 := adI X) (J2 := X) (z2 := 0) hl0 hl1 (fun _ => a1) (fun _ w => absurd x3 w) (fun _ _ w => absurd w (by omega)) (fun _ _ _ w => absurd w (by omega)) (fun w => absurd w (by omega)) (r2 := fun _ _ _ w => absurd w (by omega)) (r3 := fun _ _ _ _ => rfl) (e1 := fun w => absurd w (by omega)) (e2 := fun _ _ _ w => absurd w (by omega)) (e3 := fun _ _ _ _ => rfl), hG1, scP_inl hR e4 (by decide)⟩
      · have hR : spE t n (spL t n N (f + 1) i q A) = .inr (i, q, A) := by rw [u]; show (if tkK t n q = 3 then _ else _) = _; rw [if_pos k3.1, if_neg hi3]
        have hk := c_X0_keepSpot (d := d + 3) (I := adI X) (S := S) (a0 := U) hl1 (by rw [hc1.1]; omega)
        rw [hc1.1] at hk
        refine ⟨0, up2 (adI X) U 6 ((N : Int) + 1), w_X5_readSpot_17 (J1 := adI X) (J2 := up2 (adI X) U 6 ((N : Int) + 1)) (z2 := 0) hl0 hl1 (fun _ => a1) (fun _ w => absurd x3 w) (fun _ _ w => absurd w (by omega)) (fun _ _ _ _ => hk) (fun w => absurd w (by omega)) (r2 := fun _ _ _ _ => rfl) (r3 := fun _ _ _ w => absurd w (by omega)) (e1 := fun w => absurd w (by omega)) (e2 := fun _ _ _ _ => rfl) (e3 := fun _ _ _ w => absurd w (by omega)), spG_trans hG1 ⟨fun a ha => funext (fun k => up2_a _ (fun e => ha (Or.inr (Or.inl e)))), fun k hk' => up2_k _ hk', fun s _ => ⟨up2_a _ (by omega), up2_a _ (by omega)⟩, fun k _ => up2_a _ (by omega)⟩, fun k q' e => ?_, fun i' q' A' e => ?_⟩
        · rw [hR] at e; cases e
        · rw [hR] at e
          cases e
          refine ⟨rfl, by rw [up2_a _ (by omega)]; exact a2.1, by rw [up2_a _ (by omega)]; exact a2.2.1, up2_same _ _ _ _, ?_, hq⟩
          rw [up2_up2]
          have : up2 (adI X) U 6 (N : Int) = adI X := by rw [← hc1.1]; exact up2_self _ _ _
          rw [this]
          exact hc1
    · have goto : ∀ v J, L_X5_readSpot_53 d 32 U (i : Int) (adI X) S v (J, S) → L_X5_readSpot_17 d 32 U (i : Int) X S v (J, S) := fun v J k => w_X5_readSpot_17 (J1 := adI X) (J2 := X) (z2 := v) hl0 hl1 (fun _ => a1) (fun _ _ => k) (fun _ _ _ => k) (fun _ w1 w2 => absurd ⟨e3.symm.trans w1, by omega⟩ k3) (fun w => absurd w (by omega)) (r2 := fun _ w1 w2 => absurd ⟨e3.symm.trans w1, by omega⟩ k3) (r3 := fun _ w1 w2 => absurd ⟨e3.symm.trans w1, by omega⟩ k3) (e1 := fun w => absurd w (by omega)) (e2 := fun _ w1 w2 => absurd ⟨e3.symm.trans w1, by omega⟩ k3) (e3 := fun _ w1 w2 => absurd ⟨e3.symm.trans w1, by omega⟩ k3)
      have ck := ck_C (d := d + 3) (lo := 0) (hi := 11) hl0 a2 (by decide) (by decide)
      by_cases hnf : nfK t n q 0 11 ≠ 0
      · have hR : spE t n (spL t n N (f + 1) i q A) = .inl (nfK t n q 0 11, q) := by
          rw [u]
          by_cases k2 : tkK t n q = 2
          · rw [if_pos k2, if_pos (Or.inl hnf)]
            have := (nf_kind (lo := 0) (hi := 11) k2).resolve_left hnf
            rw [this]; rfl
          · rw [if_neg k2, nf_no k2]
            by_cases i0 : i = 0
            · rw [if_pos i0]; rfl
            · rw [if_neg i0]
              show (if tkK t n q = 3 then _ else _) = _
              rw [if_neg (fun w => k3 ⟨w, by omega⟩)]
        exact ⟨nfK t n q 0 11, adI X, goto _ _ (w_X5_readSpot_53 (J1 := adI X) (J2 := X) (z1 := nfK t n q 0 11) (z2 := true) hl0 hl1 ck (fun w => absurd w hnf) (fun w => absurd w hnf) (fun w => absurd w hnf) (r2 := fun w => absurd w hnf) (r3 := fun _ => rfl) (e1 := fun w => absurd w hnf) (e2 := fun w => absurd w hnf) (e3 := fun _ => rfl) (v1 := fun w => absurd w hnf)), hG1, scP_inl hR e4 hnf⟩
      · have hnf : nfK t n q 0 11 = 0 := Decidable.not_not.mp hnf
        obtain ⟨k2, c2, c3, c4, c5⟩ := nf_0 hnf
        have e5 : adI X 32 5 = gsV t n q := a2.2.2.2.2.trans c5
        rw [if_pos k2] at u
        by_cases h9 : 9 ≤ i
        · rw [if_pos (Or.inr h9)] at u
          have hR : spE t n (spL t n N (f + 1) i q A) = .inl (2, q) := by rw [u]; rfl
          exact ⟨2, adI X, goto _ _ (w_X5_readSpot_53 (J1 := adI X) (J2 := X) (z1 := nfK t n q 0 11) (z2 := true) hl0 hl1 ck (fun _ w => absurd w (by omega)) (fun _ w => absurd w (by omega)) (fun _ w => absurd w (by omega)) (r2 := fun _ _ => rfl) (r3 := fun w => absurd hnf w) (e1 := fun _ w => absurd w (by omega)) (e2 := fun _ _ => rfl) (e3 := fun w => absurd hnf w) (v1 := fun _ w => absurd w (by omega))), hG1, scP_inl hR e4 (by decide)⟩
        · rw [if_neg (fun w => w.elim (fun w => w hnf) h9)] at u
          obtain ⟨y1, y2⟩ := an_C (d := d + 3) (v := gsV t n q) hU hl1 hN (by omega) hc1 (by omega)
          by_cases hd : gsV t n q = (N : Int) ∨ anyB (fun k => decide (A (10 * N + 1 + k) = gsV t n q)) i = true
          · rw [if_pos hd] at u
            have hR : spE t n (spL t n N (f + 1) i q A) = .inl (4, q) := by rw [u]; rfl
            exact ⟨4, adI X, goto _ _ (w_X5_readSpot_53 (J1 := adI X) (J2 := adI X) (z1 := nfK t n q 0 11) (z2 := false) hl0 hl1 ck (fun _ _ => by rw [e5]; exact y2 hd) (fun _ _ w => absurd w (by decide)) (fun _ _ _ => rfl) (r2 := fun _ w => absurd w (by omega)) (r3 := fun w => absurd hnf w) (e1 := fun _ _ _ => rfl) (e2 := fun _ w => absurd w (by omega)) (e3 := fun w => absurd hnf w) (v1 := fun _ _ w => absurd w (by decide))), hG1, scP_inl hR e4 (by decide)⟩
          · rw [if_neg hd] at u
            obtain ⟨J2, b1, b2, b3, b4⟩ := y1 hd
            obtain ⟨v, J, q1, q2, q3⟩ := ih (i + 1) (tkE t n q) (up1 A (10 * N + 1 + i) (gsV t n q)) J2 (by omega) (by omega) hin.2.2.2 (by rw [b3]; exact a2.1) (by rw [b3]; exact a2.2.1) b4 (spG_trans hG1 b2)
            rw [← u] at q3
            exact ⟨v, J, goto _ _ (w_X5_readSpot_53 (J1 := adI X) (J2 := J2) (z1 := nfK t n q 0 11) (z2 := true) hl0 hl1 ck (fun _ _ => by rw [e5]; exact b1) (fun _ _ _ => q1) (fun _ _ w => absurd rfl w) (r2 := fun _ w => absurd w (by omega)) (r3 := fun w => absurd hnf w) (e1 := fun _ _ w => absurd rfl w) (e2 := fun _ w => absurd w (by omega)) (e3 := fun w => absurd hnf w) (v1 := fun _ _ _ => by omega)), q2, q3⟩
end
end
