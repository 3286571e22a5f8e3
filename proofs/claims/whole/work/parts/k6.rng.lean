/-! ===== ranges that are read ===== -/
noncomputable section
/-- a range: what is wrong and where, or both numbers and the place behind -/
def rgP (t : Nat → Int) (n q : Nat) : (Int × Nat) ⊕ (Int × Int × Nat) := if nfK t n q 3 9 ≠ 0 then .inl (nfK t n q 3 9, q) else (if nfK t n (tkE t n q) (gsV t n q) 9 ≠ 0 then .inl (nfK t n (tkE t n q) (gsV t n q) 9, tkE t n q) else .inr (gsV t n q, gsV t n (tkE t n q), tkE t n (tkE t n q)))
section
variable {d : Nat} {I J K X : Nat → Nat → Int} {S : PS} {U n N R q x : Nat} {t A : Nat → Int} {lo hi : Int}
theorem rgP_n {k : Int} {q' : Nat} (h : rgP t n q = .inl (k, q')) : k ≠ 0 := by
  unfold rgP at h
  by_cases c : nfK t n q 3 9 ≠ 0
  · rw [if_pos c] at h; cases h; exact c
  · rw [if_neg c] at h
    by_cases e : nfK t n (tkE t n q) (gsV t n q) 9 ≠ 0
    · rw [if_pos e] at h; cases h; exact e
    · rw [if_neg e] at h; cases h
theorem rgP_in {a b : Int} {q' : Nat} (hq : q ≤ n) (h : rgP t n q = .inr (a, b, q')) : q' ≤ n ∧ (3 ≤ a ∧ a ≤ 9) ∧ (a ≤ b ∧ b ≤ 9) := by
  unfold rgP at h
  by_cases c : nfK t n q 3 9 ≠ 0
  · rw [if_pos c] at h; cases h
  · rw [if_neg c] at h
    by_cases e : nfK t n (tkE t n q) (gsV t n q) 9 ≠ 0
    · rw [if_pos e] at h; cases h
    · rw [if_neg e] at h
      cases h
      have c := nf_0 (Decidable.not_not.mp c)
      have e := nf_0 (Decidable.not_not.mp e)
      exact ⟨(tk_in t (tk_in t hq).2.2.2).2.2.2, ⟨c.2.2.1, c.2.2.2.1⟩, e.2.2.1, e.2.2.2.1⟩
theorem tell_C {v : Int} (hl0 : LyX7 S (U + 2)) (h : J (U + 2) 0 = (R : Int)) (hR : R < 6) (hx : x < 8) : Ca d mX7_tell [vR (some (17, 0, U + 2)), vI (x : Int), vI v] (J, S) (.inl none) (up2 J (U + 3) (8 * R + x) v, S) := by
  have c := c_X7_tell (d := d) (I := J) (S := S) (a0 := U + 2) (x1 := (x : Int)) (x2 := v) hl0 (by rw [h]; omega) (by rw [h]; omega) (by rw [h]; omega)
  rw [h, show ((R : Int) * 8 + (x : Int)).toNat = 8 * R + x by omega] at c
  exact c
/-- the class's -/
theorem rr_C (hU : U = 34 ∨ U = 77) (hl0 : LyX10 S) (hl1 : LyX7 S (U + 2)) (ht : txR (J 33) t) (hn : n ≤ 700) (hq : q ≤ n) (h1 : J 32 1 = (n : Int)) (h2 : J 32 2 = (q : Int)) (h : J (U + 2) 0 = (R : Int)) (hR : R < 6) (hx : x < 7) : ∃ v J', Ca (d + 4) mX5_readRange [vR (some (20, 0, 32)), vR (some (17, 0, U + 2)), vI (x : Int)] (J, S) (.inl (some (vI v))) (J', S) ∧ (∀ a, a ≠ 32 → a ≠ U + 3 → J' a = J a) ∧ (∀ k, k ≠ 8 * R + x → k ≠ 8 * R + x + 1 → J' (U + 3) k = J (U + 3) k) ∧ (∀ k q', rgP t n q = .inl (k, q') → v = k ∧ J' 32 4 = (tkS t n q' : Int)) ∧ ∀ a b q', rgP t n q = .inr (a, b, q') → v = 0 ∧ J' (U + 3) (8 * R + x) = a ∧ J' (U + 3) (8 * R + x + 1) = b ∧ J' 32 1 = (n : Int) ∧ J' 32 2 = (q' : Int) := by
  obtain ⟨a1, a2, a3⟩ := rn_C (d := d + 1) (lo := 3) (hi := 9) hl0 ht h1 h2 hn hq (by decide) (by decide)
  have hin := tk_in t hq
  unfold rgP
  by_cases c : nfK t n q 3 9 = 0
  · obtain ⟨c1, c2, c3, c4, c5⟩ := nf_0 c
    have e5 : adI J 32 5 = gsV t n q := a2.2.2.2.2.trans c5
    have hR1 : adI J (U + 2) 0 = (R : Int) := by rw [a3 (U + 2) (by omega)]; exact h
    have g2 := tell_C (d := d + 3) (v := adI J 32 5) hl1 hR1 hR (show x < 8 by omega)
    have y32 : ∀ v, (up2 (adI J) (U + 3) (8 * R + x) v) 32 = adI J 32 := fun v => funext (fun k => up2_a _ (by omega))
    obtain ⟨b1, b2, b3⟩ := rn_C (d := d + 1) (J := up2 (adI J) (U + 3) (8 * R + x) (adI J 32 5)) (q := tkE t n q) (lo := gsV t n q) (hi := 9) (t := t) (n := n) hl0 (by rw [show (up2 (adI J) (U + 3) (8 * R + x) (adI J 32 5)) 33 = J 33 from funext (fun k => by rw [up2_a _ (by omega), a3 33 (by decide)])]; exact ht) (by rw [y32]; exact a2.1) (by rw [y32]; exact a2.2.1) hn hin.2.2.2 (by have := gsV_in (t := t) (n := n) (p := q); omega) (by decide)
    have g4 := tell_C (d := d + 3) (x := x + 1) (R := R) (v := adI (up2 (adI J) (U + 3) (8 * R + x) (adI J 32 5)) 32 5) hl1 (J := adI (up2 (adI J) (U + 3) (8 * R + x) (adI J 32 5))) (by rw [b3 (U + 2) (by omega), up2_a _ (by omega)]; exact hR1) hR (by omega)
    rw [if_neg (fun w => w c)]
    refine ⟨nfK t n (tkE t n q) (gsV t n q) 9, _, w_X5_readRange_0 hl0 hl1 a1 (fun _ => g2) (fun _ => by rw [e5] at b1 ⊢; exact b1) (fun _ => by rw [e5] at g4; exact g4) (r1 := fun _ => rfl) (e1 := fun _ => rfl) (r2 := fun w => absurd c w) (e2 := fun w => absurd c w), ?_, ?_, ?_, ?_⟩
    · intro a h1 h2
      rw [e5] at b3
      funext k
      rw [up2_a _ h2, b3 a h1, up2_a _ h2, a3 a h1]
    · intro k h1 h2
      rw [e5] at b3
      rw [up2_k _ (by omega), b3 (U + 3) (by omega), up2_k _ h1, a3 (U + 3) (by omega)]
    · intro k q' w
      rw [e5] at b2
      by_cases e : nfK t n (tkE t n q) (gsV t n q) 9 = 0
      · rw [if_neg (fun w => w e)] at w; cases w
      · rw [if_pos e] at w
        cases w
        exact ⟨rfl, by rw [up2_a _ (by omega)]; exact b2.2.2.1⟩
    · intro a b q' w
      rw [e5] at b2 b3
      by_cases e : nfK t n (tkE t n q) (gsV t n q) 9 = 0
      · rw [if_neg (fun w => w e)] at w
        cases w
        refine ⟨e, ?_, ?_, by rw [up2_a _ (by omega)]; exact b2.1, by rw [up2_a _ (by omega)]; exact b2.2.1⟩
        · rw [up2_k _ (by omega), b3 (U + 3) (by omega), up2_same]
        · rw [show 8 * R + x + 1 = 8 * R + (x + 1) by omega, up2_same]
          exact b2.2.2.2.2.trans (nf_0 e).2.2.2.2
      · rw [if_pos e] at w; cases w
  · rw [if_pos c]
    refine ⟨nfK t n q 3 9, adI J, w_X5_readRange_0 (J2 := J) (J3 := J) (J4 := J) (z3 := 0) hl0 hl1 a1 (fun w => absurd w c) (fun w => absurd w c) (fun w => absurd w c) (r1 := fun w => absurd w c) (e1 := fun w => absurd w c) (r2 := fun _ => rfl) (e2 := fun _ => rfl), fun a h1 _ => a3 a h1, fun k _ _ => by rw [a3 (U + 3) (by omega)], fun k q' w => ?_, fun a b q' w => by cases w⟩
    cases w
    exact ⟨rfl, a2.2.2.1⟩
/-- the reference's -/
theorem nu_y (hl0 : LyX12 S) (ht : J 157 = t) (hb : ∀ k, 0 ≤ t k ∧ t k ≤ 255) (hk : TKm J t n q) (hn : n ≤ 700) (hq : q ≤ n) (h3 : J 156 3 = 0) (h0 : nfK t n q lo hi = 0) : Ca (d + 3) mX12_number [vR (some (22, 0, 156)), vI lo, vI hi] (J, S) (.inl (some (vI (gsV t n q)))) (gsI J, S) ∧ TKm (gsI J) t n (tkE t n q) ∧ rdF J (gsI J) ∧ (∀ a, a ≠ 156 → gsI J a = J a) ∧ ∀ k, ¬gsK k → gsI J 156 k = J 156 k := by
  obtain ⟨g1, g2, g3, g4, g5⟩ := rdF_go (d := d + 1) hl0 ht hb hk hn hq
  exact ⟨w_X12_number_0 hl0 (nh_y (d := d + 1) hl0 hk h3 h0) (fun _ => g1) (r1 := fun w => absurd h3 w) (e1 := fun w => absurd h3 w) (r2 := fun _ => rfl) (e2 := fun _ => rfl), g2, g3, g4, g5⟩
theorem nu_n (hl0 : LyX12 S) (hk : TKm J t n q) (h3 : J 156 3 = 0) (h0 : nfK t n q lo hi ≠ 0) : Ca (d + 3) mX12_number [vR (some (22, 0, 156)), vI lo, vI hi] (J, S) (.inl (some (vI (gsV t n q)))) (up2 (up2 J 156 3 (nfK t n q lo hi)) 156 4 (tkS t n q : Int), S) := by
  have e : (up2 (up2 J 156 3 (nfK t n q lo hi)) 156 4 (tkS t n q : Int)) 156 3 = nfK t n q lo hi := rfl
  exact w_X12_number_0 (J2 := J) hl0 (nh_n (d := d + 1) hl0 hk h3 h0) (fun w => absurd (e.symm.trans w) h0) (r1 := fun _ => rfl) (e1 := fun _ => rfl) (r2 := fun w => absurd (e.symm.trans w) h0) (e2 := fun w => absurd (e.symm.trans w) h0)
theorem nu_0 (hl0 : LyX12 S) (h3 : ¬J 156 3 = 0) : Ca (d + 3) mX12_number [vR (some (22, 0, 156)), vI lo, vI hi] (J, S) (.inl (some (vI 0))) (J, S) :=
  w_X12_number_0 (J2 := J) hl0 (nh_0 (d := d + 1) hl0 h3) (fun w => absurd w h3) (r1 := fun _ => rfl) (e1 := fun _ => rfl) (r2 := fun w => absurd w h3) (e2 := fun w => absurd w h3)
theorem ne_y {b : Prop} [Decidable b] (hl0 : LyX12 S) (ht : J 157 = t) (hb : ∀ k, 0 ≤ t k ∧ t k ≤ 255) (hk : TKm J t n q) (hn : n ≤ 700) (hq : q ≤ n) (h3 : J 156 3 = 0) (h0 : b) : Ca (d + 3) mX12_need [vR (some (22, 0, 156)), vI (if b then (1 : Int) else 0)] (J, S) (.inl none) (gsI J, S) ∧ TKm (gsI J) t n (tkE t n q) ∧ rdF J (gsI J) ∧ (∀ a, a ≠ 156 → gsI J a = J a) ∧ ∀ k, ¬gsK k → gsI J 156 k = J 156 k := by
  obtain ⟨g1, g2, g3, g4, g5⟩ := rdF_go (d := d + 1) hl0 ht hb hk hn hq
  exact ⟨w_X12_need_0 (J1 := J) hl0 (fun _ w => absurd h0 w) (fun _ _ => g1) (e1 := fun _ w => absurd h0 w) (e2 := fun _ _ => rfl) (e3 := fun w => absurd h3 w), g2, g3, g4, g5⟩
theorem ne_n {b : Prop} [Decidable b] (hl0 : LyX12 S) (hk : TKm J t n q) (h3 : J 156 3 = 0) (h0 : ¬b) : Ca (d + 3) mX12_need [vR (some (22, 0, 156)), vI (if b then (1 : Int) else 0)] (J, S) (.inl none) (up2 (up2 J 156 3 1) 156 4 (tkS t n q : Int), S) := by
  have w1 := wr_y (d := d + 2) (k := 1) hl0 h3
  rw [hk.2.2.1] at w1
  exact w_X12_need_0 (J2 := J) hl0 (fun _ _ => w1) (fun _ w => absurd w h0) (e1 := fun _ _ => rfl) (e2 := fun _ w => absurd w h0) (e3 := fun w => absurd h3 w)
theorem ne_0 {b : Prop} [Decidable b] (hl0 : LyX12 S) (h3 : ¬J 156 3 = 0) : Ca (d + 3) mX12_need [vR (some (22, 0, 156)), vI (if b then (1 : Int) else 0)] (J, S) (.inl none) (J, S) :=
  w_X12_need_0 (J1 := J) (J2 := J) hl0 (fun w => absurd w h3) (fun w => absurd w h3) (e1 := fun w => absurd w h3) (e2 := fun w => absurd w h3) (e3 := fun _ => rfl)
/-- once something is wrong, only the rules' array changes -/
def flR (J J' : Nat → Nat → Int) : Prop := J' 156 = J 156 ∧ ∀ a, a ≠ 163 → J' a = J a
theorem flR_trans (h : flR I J) (g : flR J K) : flR I K := ⟨g.1.trans h.1, fun a ha => (g.2 a ha).trans (h.2 a ha)⟩
theorem flR_up {k : Nat} {v : Int} : flR J (up2 J 163 k v) := ⟨funext (fun j => up2_a _ (by decide)), fun a ha => funext (fun j => up2_a _ ha)⟩
theorem rr_0 (hl0 : LyX12 S) (h3 : ¬J 156 3 = 0) (hx : x < 47) : ∃ J', Ca (d + 4) mX12_readsRange [vR (some (22, 0, 156)), vI (x : Int)] (J, S) (.inl none) (J', S) ∧ flR J J' :=
  ⟨_, w_X12_readsRange_0 hl0 (nu_0 (d := d) hl0 h3) (nu_0 (d := d) (J := up2 J 163 ((x : Int)).toNat 0) hl0 (by rw [up2_a _ (by decide)]; exact h3)) (e1 := rfl) (v1 := by omega) (v3 := by omega), flR_trans flR_up flR_up⟩
end
end
