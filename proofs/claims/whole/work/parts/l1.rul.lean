/-! ===== a rule is read: the class's, whole ===== -/
noncomputable section
section
variable {d : Nat} {I J K X Y : Nat → Nat → Int} {S : PS} {U n N R q x : Nat} {t A : Nat → Int} {lo hi : Int}
theorem rc_68 {x3 : Int} (hU : U = 34 ∨ U = 77) (hl0 : LyX10 S) (hl1 : LyX0 S U) (hl2 : LyX7 S (U + 2)) (ht : txR (X 33) t) (hst : stC X) (hss : strs X S) (hn : n ≤ 700) (hq : q ≤ n) (hR : R < 6) (h1 : X 32 1 = (n : Int)) (h2 : X 32 2 = (q : Int)) (hr : X (U + 2) 0 = (R : Int)) {v a b : Int} (hv : X (U + 3) (8 * R) = v ∧ X (U + 3) (8 * R + 1) = a ∧ X (U + 3) (8 * R + 2) = b) (h5 : X (U + 3) (8 * R + 5) = 0 ∧ X (U + 3) (8 * R + 6) = 0 ∧ X (U + 3) (8 * R + 7) = 0) : ∃ v' J, L_X5_readRule_68 d 32 U (U + 2) x3 X S v' (J, S) ∧ rcF U X J ∧ rcQ t n U R (ruE t n (ruB t n q v a b)) (X (U + 3)) v' J := by
  obtain ⟨a1, a2, a3⟩ := ad_C (d := d + 3) hl0 ht h1 h2 hn hq
  have hin := tk_in t hq
  have F1 := rcF_ad hU a3
  have s30 := rcF_30 hU F1
  have hx1 : txR (adI X 33) t := by rw [a3 33 (by decide)]; exact ht
  have i4 : iwC (adI X) 2 14 = true ↔ wdK t n q = 4 := iw_C (k := 4) hx1 (stC_of hst s30) a2 hq (by decide)
  have hp : 0 ≤ adI X 32 4 ∧ adI X 32 4 ≤ 700 ∧ 0 ≤ adI X 32 2 ∧ adI X 32 2 ≤ 700 := by rw [a2.2.2.1, a2.2.1]; omega
  have u3 : adI X (U + 3) = X (U + 3) := a3 (U + 3) (by omega)
  have r1 : adI X (U + 2) 0 = (R : Int) := by rw [a3 (U + 2) (by omega)]; exact hr
  unfold ruB
  by_cases hw : wdK t n q = 4
  · rw [if_neg (fun w => w hw)]
    obtain ⟨v', J2, y1, y2, y3, y4, y5⟩ := rr_C (d := d) (x := 3) (R := R) (J := adI X) (q := tkE t n q) (t := t) hU hl0 hl2 hx1 hn hin.2.2.2 a2.1 a2.2.1 r1 hR (by decide)
    have F3 := rcF_rr (U := U) hU y2
    rcases hg : rgP t n (tkE t n q) with ⟨k, q'⟩ | ⟨f, g, q4⟩
    · obtain ⟨z1, z2⟩ := y4 k q' hg
      have hk0 := rgP_n hg
      subst z1
      exact ⟨v', J2, w_X5_readRule_68 hl0 hl1 hl2 a1 (fun _ => y1) (fun _ w => absurd w hk0) (r1 := fun w => absurd (i4.mpr hw) w) (e1 := fun w => absurd (i4.mpr hw) w) (r2 := fun _ _ => rfl) (e2 := fun _ _ => rfl) (v1 := strs_of hss s30) (v2 := hp), rcF_trans F1 F3, rcQ_bad rfl z2 hk0⟩
    · obtain ⟨z1, z2, z3, z4, z5⟩ := y5 f g q4 hg
      subst z1
      have F := rcF_trans F1 F3
      have s30' := rcF_30 hU F
      have o : ∀ k, k ≠ 8 * R + 3 → k ≠ 8 * R + 4 → J2 (U + 3) k = X (U + 3) k := fun k h1 h2 => by rw [y3 k h1 h2, u3]
      obtain ⟨v'', J, q1, q2, q3⟩ := rc_98 (d := d) (x3 := 0) (X := J2) (q := q4) (R := R) (t := t) (v := v) (a := a) (b := b) (c := f) (e := g) hU hl0 hl1 hl2 (by rw [y2 33 (by decide) (by omega)]; exact hx1) (stC_of hst s30') (strs_of hss s30') hn (rgP_in hin.2.2.2 hg).1 hR z4 z5 (by rw [y2 (U + 2) (by omega) (by omega)]; exact r1) ⟨by rw [o _ (by omega) (by omega)]; exact hv.1, by rw [o _ (by omega) (by omega)]; exact hv.2.1, by rw [o _ (by omega) (by omega)]; exact hv.2.2, z2, z3⟩ ⟨by rw [o _ (by omega) (by omega)]; exact h5.1, by rw [o _ (by omega) (by omega)]; exact h5.2.1, by rw [o _ (by omega) (by omega)]; exact h5.2.2⟩
      exact ⟨v'', J, w_X5_readRule_68 hl0 hl1 hl2 a1 (fun _ => y1) (fun _ _ => q1) (r1 := fun w => absurd (i4.mpr hw) w) (e1 := fun w => absurd (i4.mpr hw) w) (r2 := fun _ w => absurd rfl w) (e2 := fun _ w => absurd rfl w) (v1 := strs_of hss s30) (v2 := hp), rcF_trans F q2, rcQ_A q3 (fun k hk' => o k (by omega) (by omega))⟩
  · rw [if_pos hw]
    have iN : ¬(iwC (adI X) 2 14 = true) := fun w => hw (i4.mp w)
    exact ⟨1, adI X, w_X5_readRule_68 (J2 := X) (z2 := 0) hl0 hl1 hl2 a1 (fun w => absurd w iN) (fun w => absurd w iN) (r1 := fun _ => rfl) (e1 := fun _ => rfl) (r2 := fun w => absurd w iN) (e2 := fun w => absurd w iN) (v1 := strs_of hss s30) (v2 := hp), F1, rcQ_bad rfl a2.2.2.1 (by decide)⟩
theorem rc_38 {x3 : Int} (hU : U = 34 ∨ U = 77) (hl0 : LyX10 S) (hl1 : LyX0 S U) (hl2 : LyX7 S (U + 2)) (ht : txR (X 33) t) (hst : stC X) (hss : strs X S) (hn : n ≤ 700) (hq : q ≤ n) (hR : R < 6) (h1 : X 32 1 = (n : Int)) (h2 : X 32 2 = (q : Int)) (hr : X (U + 2) 0 = (R : Int)) {v : Int} (hv : X (U + 3) (8 * R) = v) (h5 : X (U + 3) (8 * R + 5) = 0 ∧ X (U + 3) (8 * R + 6) = 0 ∧ X (U + 3) (8 * R + 7) = 0) : ∃ v' J, L_X5_readRule_38 d 32 U (U + 2) x3 X S v' (J, S) ∧ rcF U X J ∧ rcQ t n U R (ruE t n (ruA t n q v)) (X (U + 3)) v' J := by
  obtain ⟨a1, a2, a3⟩ := ad_C (d := d + 3) hl0 ht h1 h2 hn hq
  have hin := tk_in t hq
  have F1 := rcF_ad hU a3
  have s30 := rcF_30 hU F1
  have hx1 : txR (adI X 33) t := by rw [a3 33 (by decide)]; exact ht
  have i4 : iwC (adI X) 4 12 = true ↔ wdK t n q = 3 := iw_C (k := 3) hx1 (stC_of hst s30) a2 hq (by decide)
  have hp : 0 ≤ adI X 32 4 ∧ adI X 32 4 ≤ 700 ∧ 0 ≤ adI X 32 2 ∧ adI X 32 2 ≤ 700 := by rw [a2.2.2.1, a2.2.1]; omega
  have u3 : adI X (U + 3) = X (U + 3) := a3 (U + 3) (by omega)
  have r1 : adI X (U + 2) 0 = (R : Int) := by rw [a3 (U + 2) (by omega)]; exact hr
  unfold ruA
  by_cases hw : wdK t n q = 3
  · rw [if_neg (fun w => w hw)]
    obtain ⟨v', J2, y1, y2, y3, y4, y5⟩ := rr_C (d := d) (x := 1) (R := R) (J := adI X) (q := tkE t n q) (t := t) hU hl0 hl2 hx1 hn hin.2.2.2 a2.1 a2.2.1 r1 hR (by decide)
    have F3 := rcF_rr (U := U) hU y2
    rcases hg : rgP t n (tkE t n q) with ⟨k, q'⟩ | ⟨f, g, q4⟩
    · obtain ⟨z1, z2⟩ := y4 k q' hg
      have hk0 := rgP_n hg
      subst z1
      exact ⟨v', J2, w_X5_readRule_38 hl0 hl1 hl2 a1 (fun _ => y1) (fun _ w => absurd w hk0) (r1 := fun w => absurd (i4.mpr hw) w) (e1 := fun w => absurd (i4.mpr hw) w) (r2 := fun _ _ => rfl) (e2 := fun _ _ => rfl) (v1 := strs_of hss s30) (v2 := hp), rcF_trans F1 F3, rcQ_bad rfl z2 hk0⟩
    · obtain ⟨z1, z2, z3, z4, z5⟩ := y5 f g q4 hg
      subst z1
      have F := rcF_trans F1 F3
      have s30' := rcF_30 hU F
      have o : ∀ k, k ≠ 8 * R + 1 → k ≠ 8 * R + 2 → J2 (U + 3) k = X (U + 3) k := fun k h1 h2 => by rw [y3 k h1 h2, u3]
      obtain ⟨v'', J, q1, q2, q3⟩ := rc_68 (d := d) (x3 := 0) (X := J2) (q := q4) (R := R) (t := t) (v := v) (a := f) (b := g) hU hl0 hl1 hl2 (by rw [y2 33 (by decide) (by omega)]; exact hx1) (stC_of hst s30') (strs_of hss s30') hn (rgP_in hin.2.2.2 hg).1 hR z4 z5 (by rw [y2 (U + 2) (by omega) (by omega)]; exact r1) ⟨by rw [o _ (by omega) (by omega)]; exact hv, z2, z3⟩ ⟨by rw [o _ (by omega) (by omega)]; exact h5.1, by rw [o _ (by omega) (by omega)]; exact h5.2.1, by rw [o _ (by omega) (by omega)]; exact h5.2.2⟩
      exact ⟨v'', J, w_X5_readRule_38 hl0 hl1 hl2 a1 (fun _ => y1) (fun _ _ => q1) (r1 := fun w => absurd (i4.mpr hw) w) (e1 := fun w => absurd (i4.mpr hw) w) (r2 := fun _ w => absurd rfl w) (e2 := fun _ w => absurd rfl w) (v1 := strs_of hss s30) (v2 := hp), rcF_trans F q2, rcQ_A q3 (fun k hk' => o k (by omega) (by omega))⟩
  · rw [if_pos hw]
    have iN : ¬(iwC (adI X) 4 12 = true) := fun w => hw (i4.mp w)
    exact ⟨1, adI X, w_X5_readRule_38 (J2 := X) (z2 := 0) hl0 hl1 hl2 a1 (fun w => absurd w iN) (fun w => absurd w iN) (r1 := fun _ => rfl) (e1 := fun _ => rfl) (r2 := fun w => absurd w iN) (e2 := fun w => absurd w iN) (v1 := strs_of hss s30) (v2 := hp), F1, rcQ_bad rfl a2.2.2.1 (by decide)⟩
/-- the whole of it -/
theorem ru_C (hU : U = 34 ∨ U = 77) (hl0 : LyX10 S) (hl1 : LyX0 S U) (hl2 : LyX7 S (U + 2)) (ht : txR (X 33) t) (hst : stC X) (hss : strs X S) (hn : n ≤ 700) (hq : q ≤ n) (hR : R < 6) (h1 : X 32 1 = (n : Int)) (h2 : X 32 2 = (q : Int)) (hr : X (U + 2) 0 = (R : Int)) : ∃ v' J, Ca (d + 5) mX5_readRule [vR (some (20, 0, 32)), vR (some (11, 0, U))] (X, S) (.inl (some (vI v'))) (J, S) ∧ rcF U X J ∧ rcQ t n U R (ruE t n (ruP t n q)) (X (U + 3)) v' J := by
  obtain ⟨a1, a2, a3⟩ := rn_C (d := d + 2) (lo := 1) (hi := 99) hl0 ht h1 h2 hn hq (by decide) (by decide)
  have hin := tk_in t hq
  have F1 := rcF_ad hU a3
  have r1 : adI X (U + 2) 0 = (R : Int) := by rw [a3 (U + 2) (by omega)]; exact hr
  have u3 : adI X (U + 3) = X (U + 3) := a3 (U + 3) (by omega)
  have hlt : X (U + 2) 0 < 6 := by omega
  rw [ruP_A]
  by_cases c : nfK t n q 1 99 = 0
  · rw [if_neg (fun w => w c)]
    have e5 : adI X 32 5 = gsV t n q := a2.2.2.2.2.trans (nf_0 c).2.2.2.2
    have g2 := c_X7_begin (d := d + 3) (I := adI X) (S := S) (a0 := U + 2) (x1 := gsV t n q) hl2 (by rw [r1]; omega)
    rw [r1, show ((R : Int) * 8).toNat = 8 * R by omega] at g2
    have g2' : Ca (d + 4) mX7_begin [vR (some (17, 0, (U + 2))), vI (gsV t n q)] (adI X, S) (.inl none) (up1 (adI X) (U + 3) (upTo (adI X (U + 3)) (fun j => if j = 8 * R then gsV t n q else 0) (8 * R) 8), S) := g2
    have o : ∀ a, a ≠ U + 3 → (up1 (adI X) (U + 3) (upTo (adI X (U + 3)) (fun j => if j = 8 * R then gsV t n q else 0) (8 * R) 8)) a = adI X a := fun a h => up1_o _ h
    have F2 : rcF U (adI X) (up1 (adI X) (U + 3) (upTo (adI X (U + 3)) (fun j => if j = 8 * R then gsV t n q else 0) (8 * R) 8)) := rcF_rr hU (fun a _ h => o a h)
    have F := rcF_trans F1 F2
    have s30 := rcF_30 hU F
    have i : ∀ j, 8 * R ≤ j ∧ j < 8 * R + 8 → (up1 (adI X) (U + 3) (upTo (adI X (U + 3)) (fun j => if j = 8 * R then gsV t n q else 0) (8 * R) 8)) (U + 3) j = if j = 8 * R then gsV t n q else 0 := fun j hj => by rw [up1_same, upTo_in hj]
    obtain ⟨v'', J, q1, q2, q3⟩ := rc_38 (d := d) (x3 := nfK t n q 1 99) (X := up1 (adI X) (U + 3) (upTo (adI X (U + 3)) (fun j => if j = 8 * R then gsV t n q else 0) (8 * R) 8)) (q := tkE t n q) (R := R) (t := t) (v := gsV t n q) hU hl0 hl1 hl2 (by rw [o 33 (by omega), a3 33 (by decide)]; exact ht) (stC_of hst s30) (strs_of hss s30) hn hin.2.2.2 hR (by rw [o 32 (by omega)]; exact a2.1) (by rw [o 32 (by omega)]; exact a2.2.1) (by rw [o (U + 2) (by omega)]; exact r1) (by rw [i _ (by omega), if_pos rfl]) ⟨by rw [i _ (by omega), if_neg (by omega)], by rw [i _ (by omega), if_neg (by omega)], by rw [i _ (by omega), if_neg (by omega)]⟩
    refine ⟨v'', J, w_X5_readRule_0 hl0 hl1 (fun _ => a1) (fun _ _ => by rw [e5]; exact g2') (fun _ _ => q1) (r1 := fun _ w => absurd c w) (e1 := fun _ w => absurd c w) (r2 := fun w => absurd w (by omega)) (e2 := fun w => absurd w (by omega)), rcF_trans F q2, rcQ_A q3 (fun k hk' => ?_)⟩
    rw [up1_same, upTo_out hk', u3]
  · rw [if_pos c]
    exact ⟨nfK t n q 1 99, adI X, w_X5_readRule_0 (J2 := X) hl0 hl1 (fun _ => a1) (fun _ w => absurd w c) (fun _ w => absurd w c) (r1 := fun _ _ => rfl) (e1 := fun _ _ => rfl) (r2 := fun w => absurd w (by omega)) (e2 := fun w => absurd w (by omega)), F1, rcQ_bad rfl a2.2.2.1 c⟩
theorem ru_6 (hl0 : LyX10 S) (hl1 : LyX0 S U) (hr : X (U + 2) 0 = 6) : Ca (d + 5) mX5_readRule [vR (some (20, 0, 32)), vR (some (11, 0, U))] (X, S) (.inl (some (vI 2))) (X, S) :=
  w_X5_readRule_0 (J1 := X) (J2 := X) (z1 := 0) hl0 hl1 (fun w => absurd w (by omega)) (fun w => absurd w (by omega)) (fun w => absurd w (by omega)) (r1 := fun w => absurd w (by omega)) (e1 := fun w => absurd w (by omega)) (r2 := fun _ => rfl) (e2 := fun _ => rfl)
end
end
