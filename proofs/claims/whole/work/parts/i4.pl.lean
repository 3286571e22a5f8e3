/-! ===== steps of a plan: the class's ===== -/
noncomputable section
def vlC (t : Nat → Int) (n p : Nat) : Int := if tkK t n p = 2 then (if 4 < (tkE t n p : Int) - tkS t n p then 10000 else gsV t n p) else 0
/-- the class's token is the one found from a place on -/
def TKc (J : Nat → Nat → Int) (t : Nat → Int) (n p : Nat) : Prop := J 32 1 = (n : Int) ∧ J 32 2 = (tkE t n p : Int) ∧ J 32 4 = (tkS t n p : Int) ∧ J 32 3 = tkK t n p ∧ J 32 5 = vlC t n p
section
variable {d : Nat} {I J : Nat → Nat → Int} {S : PS} {T m n : Nat} {adj : Nat → Nat → Bool} {t : Nat → Int}
theorem ad_C {q : Nat} (hl0 : LyX10 S) (hx : txR (J 33) t) (h1 : J 32 1 = (n : Int)) (h2 : J 32 2 = (q : Int)) (hn : n ≤ 700) (hq : q ≤ n) : Ca (d + 1) mX10_advance [vR (some (20, 0, 32))] (J, S) (.inl none) (adI J, S) ∧ TKc (adI J) t n q ∧ ∀ a, a ≠ 32 → adI J a = J a := by
  refine ⟨c_X10_advance hl0 (by omega) (by omega), ?_, fun a ha => ?_⟩
  · have e : adI J = H4 J (tkE t n q) (tkS t n q) (vlC t n q) (tkK t n q) := by
      unfold adI vlC
      rw [h1, h2, Int.toNat_natCast, Int.toNat_natCast, tx_E hx, tx_S hx, tx_K hx, num_eq hx]
    rw [e]
    exact ⟨h1, rfl, rfl, rfl, rfl⟩
  · unfold adI H4
    funext j
    rw [up2_a _ ha, up2_a _ ha, up2_a _ ha, up2_a _ ha]
def tsF (I J : Nat → Nat → Int) : Prop := (∀ a, ¬plW a → a ≠ 32 → J a = I a) ∧ ∀ k, k ≠ 3 → k ≠ 4 → k ≠ 5 → k ≠ 10 → J 147 k = I 147 k
theorem tsF_trans {K : Nat → Nat → Int} (h : tsF I J) (g : tsF J K) : tsF I K := ⟨fun a h1 h2 => by rw [g.1 a h1 h2]; exact h.1 a h1 h2, fun k a b c e => by rw [g.2 k a b c e]; exact h.2 k a b c e⟩
theorem tsF_ad (h : ∀ a, a ≠ 32 → J a = I a) : tsF I J := ⟨fun a _ h2 => h a h2, fun k _ _ _ _ => by rw [h 147 (by decide)]⟩
theorem tsF_pf (h : ∀ a, ¬plW a → J a = I a) (h2 : ∀ k, k ≠ 3 → k ≠ 4 → k ≠ 5 → k ≠ 10 → J 147 k = I 147 k) : tsF I J := ⟨fun a h1 _ => h a h1, h2⟩
theorem clR_of {x : PT} (h : clR I m x) (e : ∀ a, a ≠ 32 → J a = I a) : clR J m x := by
  unfold clR
  rw [e 149 (by decide), e 147 (by decide), e 150 (by decide), e 151 (by decide)]
  exact h
theorem cAd_ts (hT : T = 34 ∨ T = 77) (h : cAd I T m adj) (e : tsF I J) : cAd J T m adj := by
  unfold cAd
  rw [e.1 T (by unfold plW; omega) (by omega), e.1 (T + 5) (by unfold plW; omega) (by omega)]
  exact h
/-- the last token of a step, and the deed -/
theorem te_C {w s c first many : Int} {q : Nat} {x : PT} (hT : T = 34 ∨ T = 77) (hl0 : LyX4 S) (hl1 : LyX10 S) (hl2 : LyX0 S T) (hA : cAd J T m adj) (hx : txR (J 33) t) (h1 : J 32 1 = (n : Int)) (h2 : J 32 2 = (q : Int)) (hn : n ≤ 700) (hq : q ≤ n) (hc : clR J m x) (ho : ptO m x) (hw : 8 ≤ w ∧ w ≤ 12) (hev : 0 ≤ x.2.2.2.2.1 ∧ x.2.2.2.2.1 ≤ 1000000) (hf : 0 ≤ many ∧ many ≤ 2) :
    ∃ J', L_X4_takeStep_35 d 147 32 T first (w - 8) s c many many J S (if tkK t n q = 3 then (if (plF adj m w s c x).isSome = true then -1 else first) else (tkS t n q : Int)) (J', S) ∧ tsF J J' ∧ (tkK t n q = 3 → J' 32 1 = (n : Int) ∧ J' 32 2 = (tkE t n q : Int) ∧ clR J' m ((plF adj m w s c x).getD x)) ∧ (tkK t n q ≠ 3 → clR J' m x) := by
  obtain ⟨a1, a2, a3⟩ := ad_C (d := d + 5) hl1 hx h1 h2 hn hq
  have ha := tsF_ad a3
  by_cases hk : tkK t n q = 3
  · obtain ⟨J', b1, b2, b3, b4⟩ := pf_C (d := d + 3) (w := w) (s := s) (c := c) hl0 hl2 (cAd_ts hT hA ha) (clR_of hc a3) ho hw hev
    have e32 : J' 32 = adI J 32 := b2 32 (by unfold plW; omega)
    rw [if_pos hk]
    refine ⟨J', w_X4_takeStep_35 (J1 := adI J) (J2 := J') (J3 := J) (z2 := (plF adj m w s c x).isSome) hl0 hl1 hl2 (fun _ => a1) (fun _ _ => b1) (fun q => absurd q (by omega)) (fun q => absurd q (by omega)) (fun _ _ => ?_) (r2 := fun _ q => absurd (a2.2.2.2.1.trans hk) q) (r3 := fun q => absurd q (by omega)) (r4 := fun q => absurd q (by omega)) (e1 := fun _ _ => rfl) (e2 := fun _ q => absurd (a2.2.2.2.1.trans hk) q) (e3 := fun q => absurd q (by omega)) (e4 := fun q => absurd q (by omega)), tsF_trans ha (tsF_pf b2 b3), fun _ => ⟨by rw [e32]; exact a2.1, by rw [e32]; exact a2.2.1, b4⟩, fun q => absurd hk q⟩
    cases (plF adj m w s c x).isSome <;> rfl
  · rw [if_neg hk]
    exact ⟨adI J, w_X4_takeStep_35 (J1 := adI J) (J2 := J) (J3 := J) (z2 := true) hl0 hl1 hl2 (fun _ => a1) (fun _ q => absurd (a2.2.2.2.1.symm.trans q) hk) (fun q => absurd q (by omega)) (fun q => absurd q (by omega)) (fun _ q => absurd (a2.2.2.2.1.symm.trans q) hk) (r2 := fun _ _ => a2.2.2.1) (r3 := fun q => absurd q (by omega)) (r4 := fun q => absurd q (by omega)) (e1 := fun _ q => absurd (a2.2.2.2.1.symm.trans q) hk) (e2 := fun _ _ => rfl) (e3 := fun q => absurd q (by omega)) (e4 := fun q => absurd q (by omega)), ha, fun q => absurd q hk, fun _ => clR_of hc a3⟩
theorem vlC_nb {q : Nat} : (tkK t n q = 2 → vlC t n q = 10000 ↔ ¬nbO t n q = true) → True := fun _ => trivial
theorem vl_nb {q : Nat} (h : nbO t n q = true) : tkK t n q = 2 ∧ vlC t n q = gsV t n q ∧ vlC t n q ≠ 10000 := by
  unfold nbO at h
  rw [Bool.and_eq_true, decide_eq_true_iff, decide_eq_true_iff] at h
  have hv := gsV_in (t := t) (n := n) (p := q)
  refine ⟨h.1, ?_⟩
  unfold vlC
  rw [if_pos h.1, if_neg (by omega)]
  exact ⟨rfl, by omega⟩
theorem vl_no {q : Nat} (h : ¬nbO t n q = true) (hk : tkK t n q = 2) : vlC t n q = 10000 := by
  unfold nbO at h
  rw [Bool.and_eq_true, decide_eq_true_iff, decide_eq_true_iff] at h
  unfold vlC
  rw [if_pos hk, if_pos (by omega)]
/-- a number of a step -/
theorem tn_C {w s c first : Int} {q i many : Nat} {v : Int} {h1' : PM} (hl0 : LyX4 S) (hl1 : LyX10 S) (hl2 : LyX0 S T) (hx : txR (J 33) t) (h1 : J 32 1 = (n : Int)) (h2 : J 32 2 = (q : Int)) (hn : n ≤ 700) (hq : q ≤ n) (hi : i < many) (hm2 : many ≤ 2) (hnb : nbO t n q = true) (k : L_X4_takeStep_35 d 147 32 T first w (if (i : Int) ≠ 0 then s else gsV t n q) (if (i : Int) ≠ 0 then gsV t n q else c) (many : Int) ((i : Int) + 1) (adI J) S v h1') : L_X4_takeStep_35 d 147 32 T first w s c (many : Int) (i : Int) J S v h1' := by
  obtain ⟨a1, a2, a3⟩ := ad_C (d := d + 5) hl1 hx h1 h2 hn hq
  obtain ⟨b1, b2, b3⟩ := vl_nb hnb
  have e3 : adI J 32 3 = 2 := a2.2.2.2.1.trans b1
  have e5 : adI J 32 5 = gsV t n q := a2.2.2.2.2.trans b2
  have e6 : adI J 32 5 ≠ 10000 := by rw [a2.2.2.2.2]; exact b3
  refine w_X4_takeStep_35 (J1 := J) (J2 := J) (J3 := adI J) (z2 := true) hl0 hl1 hl2 (fun q => absurd q (by omega)) (fun q => absurd q (by omega)) (fun _ => a1) (fun _ _ _ => ?_) (fun q => absurd q (by omega)) (r2 := fun q => absurd q (by omega)) (r3 := fun _ q => absurd e3 q) (r4 := fun _ _ q => absurd q e6) (e1 := fun q => absurd q (by omega)) (e2 := fun q => absurd q (by omega)) (e3 := fun _ q => absurd e3 q) (e4 := fun _ _ q => absurd q e6)
  rw [e5]
  exact k
theorem tx_C {w s c first : Int} {q i many : Nat} (hl0 : LyX4 S) (hl1 : LyX10 S) (hl2 : LyX0 S T) (hx : txR (J 33) t) (h1 : J 32 1 = (n : Int)) (h2 : J 32 2 = (q : Int)) (hn : n ≤ 700) (hq : q ≤ n) (hi : i < many) (hnb : ¬nbO t n q = true) : L_X4_takeStep_35 d 147 32 T first w s c (many : Int) (i : Int) J S (tkS t n q : Int) (adI J, S) := by
  obtain ⟨a1, a2, a3⟩ := ad_C (d := d + 5) hl1 hx h1 h2 hn hq
  by_cases hk : tkK t n q = 2
  · have e3 : adI J 32 3 = 2 := a2.2.2.2.1.trans hk
    have e5 : adI J 32 5 = 10000 := a2.2.2.2.2.trans (vl_no hnb hk)
    exact w_X4_takeStep_35 (J1 := J) (J2 := J) (J3 := adI J) (z2 := true) hl0 hl1 hl2 (fun q => absurd q (by omega)) (fun q => absurd q (by omega)) (fun _ => a1) (fun _ _ q => absurd e5 q) (fun q => absurd q (by omega)) (r2 := fun q => absurd q (by omega)) (r3 := fun _ q => absurd e3 q) (r4 := fun _ _ _ => a2.2.2.1) (e1 := fun q => absurd q (by omega)) (e2 := fun q => absurd q (by omega)) (e3 := fun _ q => absurd e3 q) (e4 := fun _ _ _ => rfl)
  · have e3 : adI J 32 3 ≠ 2 := fun q => hk (a2.2.2.2.1.symm.trans q)
    exact w_X4_takeStep_35 (J1 := J) (J2 := J) (J3 := adI J) (z2 := true) hl0 hl1 hl2 (fun q => absurd q (by omega)) (fun q => absurd q (by omega)) (fun _ => a1) (fun _ q => absurd q e3) (fun q => absurd q (by omega)) (r2 := fun q => absurd q (by omega)) (r3 := fun _ _ => a2.2.2.1) (r4 := fun _ q => absurd q e3) (e1 := fun q => absurd q (by omega)) (e2 := fun q => absurd q (by omega)) (e3 := fun _ _ => rfl) (e4 := fun _ q => absurd q e3)
end
end
