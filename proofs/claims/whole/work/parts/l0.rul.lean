/-! ===== a rule is read: the class's ===== -/
noncomputable section
def ruE (t : Nat → Int) (n : Nat) (P : (Int × Nat) ⊕ (Nat × (Nat → Int))) : (Int × Nat) ⊕ (Nat × (Nat → Int)) := match P with
  | .inl e => .inl e
  | .inr (q', w) => if tkK t n q' = 3 then .inr (q', w) else .inl (1, q')
section
variable {d : Nat} {I J K X Y : Nat → Nat → Int} {S : PS} {U n N R q x : Nat} {t A : Nat → Int} {lo hi : Int}
/-- what a rule that is read leaves alone in the class -/
def rcF (U : Nat) (X J : Nat → Nat → Int) : Prop := (∀ a, a ≠ 32 → a ≠ U + 2 → a ≠ U + 3 → J a = X a) ∧ ∀ k, k ≠ 0 → J (U + 2) k = X (U + 2) k
theorem rcF_trans (h : rcF U X J) (g : rcF U J K) : rcF U X K := ⟨fun a h1 h2 h3 => by rw [g.1 a h1 h2 h3]; exact h.1 a h1 h2 h3, fun k hk => by rw [g.2 k hk]; exact h.2 k hk⟩
theorem rcF_ad (hU : U = 34 ∨ U = 77) (h : ∀ a, a ≠ 32 → J a = X a) : rcF U X J := ⟨fun a h1 _ _ => h a h1, fun k _ => by rw [h (U + 2) (by omega)]⟩
theorem rcF_rr (hU : U = 34 ∨ U = 77) (h : ∀ a, a ≠ 32 → a ≠ U + 3 → J a = X a) : rcF U X J := ⟨fun a h1 _ h3 => h a h1 h3, fun k _ => by rw [h (U + 2) (by omega) (by omega)]⟩
theorem rcF_30 (hU : U = 34 ∨ U = 77) (h : rcF U X J) : ∀ a, a < 30 → J a = X a := fun a ha => h.1 a (by omega) (by omega) (by omega)
/-- what reading a rule leaves in the class -/
def rcQ (t : Nat → Int) (n U R : Nat) (P : (Int × Nat) ⊕ (Nat × (Nat → Int))) (A : Nat → Int) (v : Int) (J : Nat → Nat → Int) : Prop := (∀ k q', P = .inl (k, q') → v = k ∧ J 32 4 = (tkS t n q' : Int) ∧ k ≠ 0) ∧ ∀ q' w, P = .inr (q', w) → v = 0 ∧ J (U + 2) 0 = (R : Int) + 1 ∧ (∀ k, k < 8 → J (U + 3) (8 * R + k) = w k) ∧ (∀ k, ¬(8 * R ≤ k ∧ k < 8 * R + 8) → J (U + 3) k = A k) ∧ J 32 1 = (n : Int) ∧ J 32 2 = (tkE t n q' : Int) ∧ q' ≤ n
theorem rcQ_bad {P : (Int × Nat) ⊕ (Nat × (Nat → Int))} {k : Int} {q' : Nat} (hP : P = .inl (k, q')) (h4 : J 32 4 = (tkS t n q' : Int)) (hk : k ≠ 0) : rcQ t n U R P A k J := by
  refine ⟨fun k' q'' e => ?_, fun q'' w e => ?_⟩
  · rw [hP] at e; cases e; exact ⟨rfl, h4, hk⟩
  · rw [hP] at e; cases e
theorem rcQ_A {P : (Int × Nat) ⊕ (Nat × (Nat → Int))} {A B : Nat → Int} {v : Int} (h : rcQ t n U R P A v J) (e : ∀ k, ¬(8 * R ≤ k ∧ k < 8 * R + 8) → A k = B k) : rcQ t n U R P B v J := ⟨h.1, fun q' w hh => ⟨(h.2 q' w hh).1, (h.2 q' w hh).2.1, (h.2 q' w hh).2.2.1, fun k hk => ((h.2 q' w hh).2.2.2.1 k hk).trans (e k hk), (h.2 q' w hh).2.2.2.2⟩⟩
theorem rc_161 {x3 x4 : Int} (hU : U = 34 ∨ U = 77) (hl0 : LyX10 S) (hl1 : LyX0 S U) (hl2 : LyX7 S (U + 2)) (hq : q ≤ n) (hR : R < 6) (hk : TKc X t n q) (hr : X (U + 2) 0 = (R : Int)) {w : Nat → Int} (hw : ∀ k, k < 8 → X (U + 3) (8 * R + k) = w k) : ∃ v J, L_X5_readRule_161 d 32 U (U + 2) x3 x4 X S v (J, S) ∧ rcF U X J ∧ rcQ t n U R (ruE t n (.inr (q, w))) (X (U + 3)) v J := by
  have e3 : X 32 3 = tkK t n q := hk.2.2.2.1
  by_cases c : tkK t n q = 3
  · have hP : ruE t n (.inr (q, w)) = .inr (q, w) := by show (if tkK t n q = 3 then _ else _) = _; rw [if_pos c]
    have kk := c_X7_keepRule (d := d + 4) (I := X) (S := S) (a0 := U + 2) hl2 (by rw [hr]; omega)
    refine ⟨0, up2 X (U + 2) 0 (X (U + 2) 0 + 1), w_X5_readRule_161 hl0 hl1 hl2 (fun _ => kk) (r1 := fun w => absurd (e3.trans c) w) (e1 := fun w => absurd (e3.trans c) w) (r2 := fun _ => rfl) (e2 := fun _ => rfl), ⟨fun a _ h2 _ => funext (fun j => up2_a _ h2), fun k hk' => up2_k _ hk'⟩, fun k q' e => ?_, fun q' w' e => ?_⟩
    · rw [hP] at e; cases e
    · rw [hP] at e
      cases e
      refine ⟨rfl, by rw [up2_same, hr], fun k hk' => ?_, fun k hk' => ?_, ?_, ?_, hq⟩
      · rw [up2_a _ (by omega)]; exact hw k hk'
      · rw [up2_a _ (by omega)]
      · rw [up2_a _ (by omega)]; exact hk.1
      · rw [up2_a _ (by omega)]; exact hk.2.1
  · have hP : ruE t n (.inr (q, w)) = .inl (1, q) := by show (if tkK t n q = 3 then _ else _) = _; rw [if_neg c]
    have e3' : X 32 3 ≠ 3 := fun w => c (e3.symm.trans w)
    exact ⟨1, X, w_X5_readRule_161 (J1 := X) (z1 := 0) hl0 hl1 hl2 (fun w => absurd w e3') (r1 := fun _ => rfl) (e1 := fun _ => rfl) (r2 := fun w => absurd w e3') (e2 := fun w => absurd w e3'), ⟨fun _ _ _ _ => rfl, fun _ _ => rfl⟩, rcQ_bad hP hk.2.2.1 (by decide)⟩
theorem iw_C {k : Nat} (hx : txR (X 33) t) (hst : stC X) (hk : TKc X t n q) (hq : q ≤ n) (hkk : k < 13) : iwC X (wL k).length (sNo k) = true ↔ wdK t n q = (k : Int) := by
  rw [iw_eq hx hst rfl hk.2.1 hk.2.2.1 hk.2.2.2.1 hq hkk]
  exact decide_eq_true_iff
theorem rc_98 {x3 : Int} (hU : U = 34 ∨ U = 77) (hl0 : LyX10 S) (hl1 : LyX0 S U) (hl2 : LyX7 S (U + 2)) (ht : txR (X 33) t) (hst : stC X) (hss : strs X S) (hn : n ≤ 700) (hq : q ≤ n) (hR : R < 6) (h1 : X 32 1 = (n : Int)) (h2 : X 32 2 = (q : Int)) (hr : X (U + 2) 0 = (R : Int)) {v a b c e : Int} (hv : X (U + 3) (8 * R) = v ∧ X (U + 3) (8 * R + 1) = a ∧ X (U + 3) (8 * R + 2) = b ∧ X (U + 3) (8 * R + 3) = c ∧ X (U + 3) (8 * R + 4) = e) (h5 : X (U + 3) (8 * R + 5) = 0 ∧ X (U + 3) (8 * R + 6) = 0 ∧ X (U + 3) (8 * R + 7) = 0) : ∃ v' J, L_X5_readRule_98 d 32 U (U + 2) x3 X S v' (J, S) ∧ rcF U X J ∧ rcQ t n U R (ruE t n (ruC t n q v a b c e)) (X (U + 3)) v' J := by
  obtain ⟨a1, a2, a3⟩ := ad_C (d := d + 3) hl0 ht h1 h2 hn hq
  have hin := tk_in t hq
  have F1 := rcF_ad hU a3
  have s30 := rcF_30 hU F1
  have hx1 : txR (adI X 33) t := by rw [a3 33 (by decide)]; exact ht
  have i5 := iw_C (k := 5) hx1 (stC_of hst s30) a2 hq (by decide)
  have i6 := iw_C (k := 6) hx1 (stC_of hst s30) a2 hq (by decide)
  have i5 : iwC (adI X) 4 16 = true ↔ wdK t n q = 5 := i5
  have i6 : iwC (adI X) 4 18 = true ↔ wdK t n q = 6 := i6
  have hp : 0 ≤ adI X 32 4 ∧ adI X 32 4 ≤ 700 ∧ 0 ≤ adI X 32 2 ∧ adI X 32 2 ≤ 700 := by rw [a2.2.2.1, a2.2.1]; omega
  have u3 : adI X (U + 3) = X (U + 3) := a3 (U + 3) (by omega)
  have r1 : adI X (U + 2) 0 = (R : Int) := by rw [a3 (U + 2) (by omega)]; exact hr
  by_cases hw : wdK t n q = 5 ∨ wdK t n q = 6
  · have hx4 : (if ¬(iwC (adI X) 4 16 = true) then ((if ¬(iwC (adI X) 4 18 = true) then (0 : Int) else 2) : Int) else 1) = if wdK t n q = 5 then 1 else 2 := by
      by_cases w5 : wdK t n q = 5
      · rw [if_neg (fun w => w (i5.mpr w5)), if_pos w5]
      · rw [if_pos (fun w => w5 (i5.mp w)), if_neg (fun w => w (i6.mpr (hw.resolve_left w5))), if_neg w5]
    have hP : ruC t n q v a b c e = match rgP t n (tkE t n q) with
        | .inl e => .inl e
        | .inr (f, g, q4) => .inr (q4, fun k => ([v, a, b, c, e, f, g, (if wdK t n q = 5 then 1 else 2)] : List Int).getD k 0) := by unfold ruC; rw [if_pos hw]; rcases rgP t n (tkE t n q) with ⟨_, _⟩ | ⟨_, _, _⟩ <;> rfl
    have hx0 : (if wdK t n q = 5 then (1 : Int) else 2) ≠ 0 := by split <;> decide
    have tl := tell_C (d := d + 4) (x := 7) (v := if wdK t n q = 5 then (1 : Int) else 2) hl2 r1 hR (by decide)
    have z32 : (up2 (adI X) (U + 3) (8 * R + 7) (if wdK t n q = 5 then (1 : Int) else 2)) 32 = adI X 32 := funext (fun j => up2_a _ (by omega))
    obtain ⟨v', J2, y1, y2, y3, y4, y5⟩ := rr_C (d := d) (x := 5) (R := R) (J := up2 (adI X) (U + 3) (8 * R + 7) (if wdK t n q = 5 then (1 : Int) else 2)) (q := tkE t n q) (t := t) hU hl0 hl2 (by rw [show (up2 (adI X) (U + 3) (8 * R + 7) (if wdK t n q = 5 then (1 : Int) else 2)) 33 = adI X 33 from funext (fun j => up2_a _ (by omega))]; exact hx1) hn hin.2.2.2 (by rw [z32]; exact a2.1) (by rw [z32]; exact a2.2.1) (by rw [up2_a _ (by omega)]; exact r1) hR (by decide)
    have F2 : rcF U (adI X) (up2 (adI X) (U + 3) (8 * R + 7) (if wdK t n q = 5 then (1 : Int) else 2)) := rcF_rr hU (fun a _ h => funext (fun j => up2_a _ h))
    have F3 := rcF_rr (U := U) hU y2
    have goto : ∀ v J, L_X5_readRule_136 d 32 U (U + 2) x3 (if wdK t n q = 5 then (1 : Int) else 2) (adI X) S v (J, S) → L_X5_readRule_98 d 32 U (U + 2) x3 X S v (J, S) := fun v J kk => w_X5_readRule_98 hl0 hl1 hl2 a1 (fun w => absurd (hx4.symm.trans w) hx0) (fun _ => by rw [hx4]; exact kk) (v1 := strs_of hss s30) (v2 := hp)
    rcases hg : rgP t n (tkE t n q) with ⟨k, q'⟩ | ⟨f, g, q4⟩
    · rw [hg] at hP
      obtain ⟨z1, z2⟩ := y4 k q' hg
      have hk0 := rgP_n hg
      subst z1
      exact ⟨v', J2, goto _ _ (w_X5_readRule_136 (J3 := X) hl0 hl1 hl2 tl y1 (fun w => absurd w hk0) (fun w => absurd w hk0) (r1 := fun _ => rfl) (e1 := fun _ => rfl)), rcF_trans F1 (rcF_trans F2 F3), rcQ_bad (by rw [hP]; rfl) z2 hk0⟩
    · rw [hg] at hP
      obtain ⟨z1, z2, z3, z4, z5⟩ := y5 f g q4 hg
      subst z1
      have hq4 := (rgP_in hin.2.2.2 hg).1
      obtain ⟨b1, b2, b3⟩ := ad_C (d := d + 3) (J := J2) (q := q4) hl0 (t := t) (by rw [y2 33 (by decide) (by omega), show (up2 (adI X) (U + 3) (8 * R + 7) (if wdK t n q = 5 then (1 : Int) else 2)) 33 = adI X 33 from funext (fun j => up2_a _ (by omega))]; exact hx1) z4 z5 hn hq4
      have o : ∀ k, k ≠ 8 * R + 5 → k ≠ 8 * R + 6 → k ≠ 8 * R + 7 → adI J2 (U + 3) k = X (U + 3) k := fun k h1 h2 h3 => by rw [b3 (U + 3) (by omega), y3 k h1 h2, up2_k _ h3, u3]
      obtain ⟨v'', J, q1, q2, q3⟩ := rc_161 (d := d) (x3 := 0) (x4 := if wdK t n q = 5 then (1 : Int) else 2) (X := adI J2) (q := q4) (R := R) (w := fun k => ([v, a, b, c, e, f, g, (if wdK t n q = 5 then 1 else 2)] : List Int).getD k 0) hU hl0 hl1 hl2 hq4 hR b2 (by rw [b3 (U + 2) (by omega), y2 (U + 2) (by omega) (by omega), up2_a _ (by omega)]; exact r1) (fun k hk' => by
        match k, hk' with
        | 0, _ => rw [o _ (by omega) (by omega) (by omega)]; exact hv.1
        | 1, _ => rw [o _ (by omega) (by omega) (by omega)]; exact hv.2.1
        | 2, _ => rw [o _ (by omega) (by omega) (by omega)]; exact hv.2.2.1
        | 3, _ => rw [o _ (by omega) (by omega) (by omega)]; exact hv.2.2.2.1
        | 4, _ => rw [o _ (by omega) (by omega) (by omega)]; exact hv.2.2.2.2
        | 5, _ => rw [b3 (U + 3) (by omega)]; exact z2
        | 6, _ => rw [b3 (U + 3) (by omega)]; exact z3
        | 7, _ => rw [b3 (U + 3) (by omega), y3 _ (by omega) (by omega), up2_same]; rfl)
      refine ⟨v'', J, goto _ _ (w_X5_readRule_136 hl0 hl1 hl2 tl y1 (fun _ => b1) (fun _ => q1) (r1 := fun w => absurd rfl w) (e1 := fun w => absurd rfl w)), rcF_trans F1 (rcF_trans F2 (rcF_trans F3 (rcF_trans (rcF_ad hU b3) q2))), ?_⟩
      rw [hP]
      exact rcQ_A q3 (fun k hk' => o k (by omega) (by omega) (by omega))
  · have hP : ruC t n q v a b c e = .inr (q, fun k => ([v, a, b, c, e] : List Int).getD k 0) := by unfold ruC; rw [if_neg hw]
    have hx4 : (if ¬(iwC (adI X) 4 16 = true) then ((if ¬(iwC (adI X) 4 18 = true) then (0 : Int) else 2) : Int) else 1) = 0 := by
      rw [if_pos (fun w => hw (Or.inl (i5.mp w))), if_pos (fun w => hw (Or.inr (i6.mp w)))]
    obtain ⟨v', J, q1, q2, q3⟩ := rc_161 (d := d) (x3 := x3) (x4 := 0) (X := adI X) (q := q) (R := R) (w := fun k => ([v, a, b, c, e] : List Int).getD k 0) hU hl0 hl1 hl2 hq hR a2 r1 (fun k hk' => by
      rw [u3]
      match k, hk' with
      | 0, _ => exact hv.1
      | 1, _ => exact hv.2.1
      | 2, _ => exact hv.2.2.1
      | 3, _ => exact hv.2.2.2.1
      | 4, _ => exact hv.2.2.2.2
      | 5, _ => exact h5.1
      | 6, _ => exact h5.2.1
      | 7, _ => exact h5.2.2)
    refine ⟨v', J, w_X5_readRule_98 hl0 hl1 hl2 a1 (fun _ => by rw [hx4]; exact q1) (fun w => absurd hx4 w) (v1 := strs_of hss s30) (v2 := hp), rcF_trans F1 q2, ?_⟩
    rw [hP, ← u3]
    exact q3
end
end
