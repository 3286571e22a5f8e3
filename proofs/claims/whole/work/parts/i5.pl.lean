/-! ===== a step of a plan, the class's, whole ===== -/
noncomputable section
section
variable {d : Nat} {I J : Nat → Nat → Int} {S : PS} {T m n p : Nat} {adj : Nat → Nat → Bool} {t : Nat → Int} {x : PT}
theorem plN_brk (hW : 8 ≤ wdK t n p) {b : Int} (hB : plB t n (tkE t n p) (wdK t n p) = b) (hb : b ≠ -1) : plN t n adj m p x = .inl b := by
  unfold plN
  rw [if_neg (by omega), hB, if_pos hb]
theorem plN_end (hW : 8 ≤ wdK t n p) (hB : plB t n (tkE t n p) (wdK t n p) = -1) : plN t n adj m p x = match plF adj m (wdK t n p) (plU t n (tkE t n p) (wdK t n p)) (plV t n (tkE t n p) (wdK t n p)) x with
    | none => .inl (tkS t n p : Int)
    | some x' => .inr (tkE t n (plQ t n (tkE t n p) (wdK t n p)), x') := by
  unfold plN
  rw [if_neg (by omega), hB, if_neg (by decide)]
  cases plF adj m (wdK t n p) (plU t n (tkE t n p) (wdK t n p)) (plV t n (tkE t n p) (wdK t n p)) x <;> rfl
def tsP (t : Nat → Int) (n : Nat) (adj : Nat → Nat → Bool) (m p : Nat) (x : PT) (v : Int) (J : Nat → Nat → Int) : Prop := (∀ b, plN t n adj m p x = .inl b → v = b ∧ clR J m x) ∧ ∀ p' x', plN t n adj m p x = .inr (p', x') → v = -1 ∧ clR J m x' ∧ J 32 1 = (n : Int) ∧ J 32 2 = (p' : Int)
theorem tsP_brk (hW : 8 ≤ wdK t n p) {b : Int} (hB : plB t n (tkE t n p) (wdK t n p) = b) (hb : b ≠ -1) (hc : clR J m x) : tsP t n adj m p x b J := by
  have h := plN_brk (adj := adj) (m := m) (x := x) hW hB hb
  refine ⟨fun b' e => ?_, fun p' x' e => ?_⟩
  · rw [h] at e
    cases e
    exact ⟨rfl, hc⟩
  · rw [h] at e; cases e
theorem tsP_fin {q2 : Nat} (hW : 8 ≤ wdK t n p) (hQ : plQ t n (tkE t n p) (wdK t n p) = q2) (hB : plB t n (tkE t n p) (wdK t n p) = if tkK t n q2 = 3 then -1 else (tkS t n q2 : Int)) (f3 : tkK t n q2 = 3 → J 32 1 = (n : Int) ∧ J 32 2 = (tkE t n q2 : Int) ∧ clR J m ((plF adj m (wdK t n p) (plU t n (tkE t n p) (wdK t n p)) (plV t n (tkE t n p) (wdK t n p)) x).getD x)) (fn : tkK t n q2 ≠ 3 → clR J m x) : tsP t n adj m p x (if tkK t n q2 = 3 then (if (plF adj m (wdK t n p) (plU t n (tkE t n p) (wdK t n p)) (plV t n (tkE t n p) (wdK t n p)) x).isSome = true then -1 else (tkS t n p : Int)) else (tkS t n q2 : Int)) J := by
  by_cases hk : tkK t n q2 = 3
  · rw [if_pos hk] at hB ⊢
    obtain ⟨g1, g2, g3⟩ := f3 hk
    have h := plN_end (adj := adj) (m := m) (x := x) hW hB
    rw [hQ] at h
    cases hF : plF adj m (wdK t n p) (plU t n (tkE t n p) (wdK t n p)) (plV t n (tkE t n p) (wdK t n p)) x with
    | none =>
      rw [hF] at h g3
      refine ⟨fun b' e => ?_, fun p' x' e => ?_⟩
      · rw [h] at e; cases e; exact ⟨rfl, g3⟩
      · rw [h] at e; cases e
    | some x1 =>
      rw [hF] at h g3
      refine ⟨fun b' e => ?_, fun p' x' e => ?_⟩
      · rw [h] at e; cases e
      · rw [h] at e; cases e; exact ⟨rfl, g3, g1, g2⟩
  · rw [if_neg hk] at hB ⊢
    exact tsP_brk hW hB (by omega) (fn hk)
theorem ts_C (hT : T = 34 ∨ T = 77) (hl0 : LyX4 S) (hl1 : LyX10 S) (hl2 : LyX0 S T) (hA : cAd I T m adj) (hx : txR (I 33) t) (hst : stC I) (hss : strs I S) (hk : TKc I t n p) (hn : n ≤ 700) (hp : p ≤ n) (hc : clR I m x) (ho : ptO m x) (hev : 0 ≤ x.2.2.2.2.1 ∧ x.2.2.2.2.1 ≤ 1000000) : ∃ v J, Ca (d + 7) mX4_takeStep [vR (some (15, 0, 147)), vR (some (20, 0, 32)), vR (some (11, 0, T))] (I, S) (.inl (some (vI v))) (J, S) ∧ tsF I J ∧ tsP t n adj m p x v J := by
  have hin := tk_in t hp
  have hW := wdK_in t n p
  have iw := fun k hk' => iw_eq (k := k) hx hst rfl hk.2.1 hk.2.2.1 hk.2.2.2.1 hp hk'
  have i8 : iwC I 5 20 = decide (wdK t n p = 8) := iw 8 (by decide)
  have i9 : iwC I 4 22 = decide (wdK t n p = 9) := iw 9 (by decide)
  have i10 : iwC I 4 24 = decide (wdK t n p = 10) := iw 10 (by decide)
  have i11 : iwC I 5 26 = decide (wdK t n p = 11) := iw 11 (by decide)
  have i12 : iwC I 3 28 = decide (wdK t n p = 12) := iw 12 (by decide)
  have hD : (if ¬(iwC I 5 20 = true) then ((if ¬(iwC I 4 22 = true) then ((if ¬(iwC I 4 24 = true) then ((if ¬(iwC I 5 26 = true) then ((if ¬(iwC I 3 28 = true) then ((-1) : Int) else 4) : Int) else 3) : Int) else 2) : Int) else 1) : Int) else 0) = if wdK t n p < 8 then -1 else wdK t n p - 8 := by
    rw [i8, i9, i10, i11, i12]
    simp only [decide_eq_true_eq]
    (repeat' split) <;> omega
  have h32 : 0 ≤ I 32 4 ∧ I 32 4 ≤ 700 ∧ 0 ≤ I 32 2 ∧ I 32 2 ≤ 700 := by rw [hk.2.1, hk.2.2.1]; omega
  by_cases hw8 : wdK t n p < 8
  · rw [if_pos hw8] at hD
    have hN : plN t n adj m p x = .inl (tkS t n p : Int) := by unfold plN; rw [if_pos hw8]
    refine ⟨(tkS t n p : Int), I, w_X4_takeStep_0 hl0 hl1 hl2 (fun q => absurd hD q) (fun _ => hk.2.2.1) (e1 := fun _ => rfl) (v1 := hss) (v2 := h32), ⟨fun _ _ _ => rfl, fun _ _ _ _ _ => rfl⟩, fun b e => ?_, fun p' x' e => ?_⟩
    · rw [hN] at e; cases e; exact ⟨rfl, hc⟩
    · rw [hN] at e; cases e
  · rw [if_neg hw8] at hD
    have main : ∃ v J, L_X4_takeStep_35 d 147 32 T (tkS t n p : Int) (wdK t n p - 8) 0 0 (if wdK t n p - 8 = 0 then (2 : Int) else (if wdK t n p - 8 ≠ 2 then ((if wdK t n p - 8 = 1 then (1 : Int) else 0) : Int) else 2)) 0 I S v (J, S) ∧ tsF I J ∧ tsP t n adj m p x v J := by
      obtain ⟨w, hw⟩ : ∃ w, w = wdK t n p := ⟨_, rfl⟩
      obtain ⟨q, hq⟩ : ∃ q, q = tkE t n p := ⟨_, rfl⟩
      have h2 : I 32 2 = (q : Int) := by rw [hq]; exact hk.2.1
      have hqn : q ≤ n := by omega
      have hin2 := tk_in t hqn
      obtain ⟨a1, a2, a3⟩ := ad_C (d := d + 5) hl1 hx hk.1 h2 hn hqn
      have hx1 : txR (adI I 33) t := by rw [a3 33 (by decide)]; exact hx
      have ha := tsF_ad a3
      obtain ⟨b1, b2, b3⟩ := ad_C (d := d + 5) hl1 hx1 a2.1 a2.2.1 hn hin2.2.2.2
      have hin3 := tk_in t hin2.2.2.2
      have hx2 : txR (adI (adI I) 33) t := by rw [b3 33 (by decide)]; exact hx1
      have hb := tsF_ad b3
      have cA := clR_of hc a3
      have cB := clR_of cA b3
      by_cases w2 : w = 8 ∨ w = 10
      · have em : (if w - 8 = 0 then (2 : Int) else (if w - 8 ≠ 2 then ((if w - 8 = 1 then (1 : Int) else 0) : Int) else 2)) = ((2 : Nat) : Int) := by
          rcases w2 with h | h <;> rw [h] <;> decide
        have uB : plB t n q w = if nbO t n q = true then (if nbO t n (tkE t n q) = true then (if tkK t n (tkE t n (tkE t n q)) = 3 then -1 else (tkS t n (tkE t n (tkE t n q)) : Int)) else (tkS t n (tkE t n q) : Int)) else (tkS t n q : Int) := by unfold plB; rw [if_pos w2]
        have uQ : plQ t n q w = tkE t n (tkE t n q) := by unfold plQ; rw [if_pos w2]
        have uU : plU t n q w = gsV t n q := by unfold plU; rw [if_pos (by omega)]
        have uV : plV t n q w = gsV t n (tkE t n q) := by unfold plV; rw [if_pos w2]
        rw [← hw, em]
        by_cases n1 : nbO t n q = true
        · rw [if_pos n1] at uB
          by_cases n2 : nbO t n (tkE t n q) = true
          · rw [if_pos n2] at uB
            obtain ⟨J', e1, e2, e3, e4⟩ := te_C (d := d) (first := (tkS t n p : Int)) (w := w) (s := gsV t n q) (c := gsV t n (tkE t n q)) (many := 2) (x := x) hT hl0 hl1 hl2 (cAd_ts hT hA (tsF_trans ha hb)) hx2 b2.1 b2.2.1 hn hin3.2.2.2 cB ho (by omega) hev (by decide)
            refine ⟨_, J', tn_C (i := 0) hl0 hl1 hl2 hx hk.1 h2 hn hqn (by decide) (by decide) n1 (tn_C (i := 1) hl0 hl1 hl2 hx1 a2.1 a2.2.1 hn hin2.2.2.2 (by decide) (by decide) n2 e1), tsF_trans (tsF_trans ha hb) e2, ?_⟩
            have := tsP_fin (t := t) (n := n) (adj := adj) (m := m) (p := p) (x := x) (J := J') (q2 := tkE t n (tkE t n q)) (by omega) (by rw [← hq, ← hw]; exact uQ) (by rw [← hq, ← hw]; exact uB) (by rw [← hq, ← hw, uU, uV]; exact e3) e4
            rw [← hq, ← hw, uU, uV] at this
            exact this
          · rw [if_neg n2] at uB
            refine ⟨_, adI (adI I), tn_C (i := 0) hl0 hl1 hl2 hx hk.1 h2 hn hqn (by decide) (by decide) n1 (tx_C (i := 1) hl0 hl1 hl2 hx1 a2.1 a2.2.1 hn hin2.2.2.2 (by decide) n2), tsF_trans ha hb, tsP_brk (by omega) (by rw [← hq, ← hw]; exact uB) (by omega) cB⟩
        · rw [if_neg n1] at uB
          exact ⟨_, adI I, tx_C (i := 0) hl0 hl1 hl2 hx hk.1 h2 hn hqn (by decide) n1, ha, tsP_brk (by omega) (by rw [← hq, ← hw]; exact uB) (by omega) cA⟩
      by_cases w9 : w = 9
      · have em : (if w - 8 = 0 then (2 : Int) else (if w - 8 ≠ 2 then ((if w - 8 = 1 then (1 : Int) else 0) : Int) else 2)) = ((1 : Nat) : Int) := by rw [w9]; decide
        have uB : plB t n q w = if nbO t n q = true then (if tkK t n (tkE t n q) = 3 then -1 else (tkS t n (tkE t n q) : Int)) else (tkS t n q : Int) := by unfold plB; rw [if_neg w2, if_pos w9]
        have uQ : plQ t n q w = tkE t n q := by unfold plQ; rw [if_neg w2, if_pos w9]
        have uU : plU t n q w = gsV t n q := by unfold plU; rw [if_pos (by omega)]
        have uV : plV t n q w = 0 := by unfold plV; rw [if_neg w2]
        rw [← hw, em]
        by_cases n1 : nbO t n q = true
        · rw [if_pos n1] at uB
          obtain ⟨J', e1, e2, e3, e4⟩ := te_C (d := d) (first := (tkS t n p : Int)) (w := w) (s := gsV t n q) (c := 0) (many := 1) (x := x) hT hl0 hl1 hl2 (cAd_ts hT hA ha) hx1 a2.1 a2.2.1 hn hin2.2.2.2 cA ho (by omega) hev (by decide)
          refine ⟨_, J', tn_C (i := 0) hl0 hl1 hl2 hx hk.1 h2 hn hqn (by decide) (by decide) n1 e1, tsF_trans ha e2, ?_⟩
          have := tsP_fin (t := t) (n := n) (adj := adj) (m := m) (p := p) (x := x) (J := J') (q2 := tkE t n q) (by omega) (by rw [← hq, ← hw]; exact uQ) (by rw [← hq, ← hw]; exact uB) (by rw [← hq, ← hw, uU, uV]; exact e3) e4
          rw [← hq, ← hw, uU, uV] at this
          exact this
        · rw [if_neg n1] at uB
          exact ⟨_, adI I, tx_C (i := 0) hl0 hl1 hl2 hx hk.1 h2 hn hqn (by decide) n1, ha, tsP_brk (by omega) (by rw [← hq, ← hw]; exact uB) (by omega) cA⟩
      · have em : (if w - 8 = 0 then (2 : Int) else (if w - 8 ≠ 2 then ((if w - 8 = 1 then (1 : Int) else 0) : Int) else 2)) = 0 := by rw [if_neg (by omega), if_pos (by omega), if_neg (by omega)]
        have uB : plB t n q w = if tkK t n q = 3 then -1 else (tkS t n q : Int) := by unfold plB; rw [if_neg w2, if_neg w9]
        have uQ : plQ t n q w = q := by unfold plQ; rw [if_neg w2, if_neg w9]
        have uU : plU t n q w = 0 := by unfold plU; rw [if_neg (by omega)]
        have uV : plV t n q w = 0 := by unfold plV; rw [if_neg w2]
        rw [← hw, em]
        obtain ⟨J', e1, e2, e3, e4⟩ := te_C (d := d) (first := (tkS t n p : Int)) (w := w) (s := 0) (c := 0) (many := 0) (x := x) hT hl0 hl1 hl2 hA hx hk.1 h2 hn hqn hc ho (by omega) hev (by decide)
        refine ⟨_, J', e1, e2, ?_⟩
        have := tsP_fin (t := t) (n := n) (adj := adj) (m := m) (p := p) (x := x) (J := J') (q2 := q) (by omega) (by rw [← hq, ← hw]; exact uQ) (by rw [← hq, ← hw]; exact uB) (by rw [← hq, ← hw, uU, uV]; exact e3) e4
        rw [← hq, ← hw, uU, uV] at this
        exact this
    obtain ⟨v, J, m1, m2, m3⟩ := main
    refine ⟨v, J, w_X4_takeStep_0 hl0 hl1 hl2 (fun _ => ?_) (fun q => absurd q (by rw [hD]; omega)) (e1 := fun q => absurd q (by rw [hD]; omega)) (v1 := hss) (v2 := h32), m2, m3⟩
    rw [hD, hk.2.2.1]
    exact m1
end
end
