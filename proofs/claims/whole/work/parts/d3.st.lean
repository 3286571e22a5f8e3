/-! ===== levels and extensions, the class's ===== -/
noncomputable section
def lbA (rcn bc L : Nat → Int) (sw : Nat → Nat → Int) (at0 lvl : Int) : Bool := allB (lbR bc L (sw (lbNo (rcn at0.toNat))) at0 lvl (lbPer (rcn at0.toNat))) (lbRows (rcn at0.toNat))
/-- whether a colouring is led below, the class's -/
def ledC (rcn bc : Nat → Int) (sw : Nat → Nat → Int) (lvl : Int) (f : Nat → Int) (c : Nat) : Bool := anyB (fun q => lbA rcn bc f sw (((c : Int) * 3) + (q : Int)) lvl) 3
theorem i2b_small {x : Int} (h : 0 ≤ x ∧ x ≤ 127) : p_i2b (p_i2b x) = x := by
  obtain ⟨n, rfl⟩ := Int.eq_ofNat_of_zero_le h.1
  have : ∀ n : Fin 128, p_i2b (p_i2b (n.val : Int)) = (n.val : Int) := by decide +kernel
  exact this ⟨n, by omega⟩
theorem i2b_m1 : p_i2b (p_i2b (-1)) = -1 := by decide
theorem lbA_congr {rcn bc L : Nat → Int} {sw sw' : Nat → Nat → Int} {at0 lvl : Int} (h : ∀ k, k < 4 → sw k = sw' k) : lbA rcn bc L sw at0 lvl = lbA rcn bc L sw' at0 lvl := by
  unfold lbA
  have : lbNo (rcn at0.toNat) < 4 := by unfold lbNo; split <;> (first | (split <;> decide) | decide)
  rw [h _ this]
section
variable {d : Nat} {I : Nat → Nat → Int} {S : PS}
/-- a ring as it stands ready -/
def rgO (I : Nat → Nat → Int) (S : PS) (a0 N : Nat) : Prop := I a0 1 = (N : Int) ∧ N ≤ 91 ∧ rc S a0 = N ∧ (∀ k i : Nat, 1 ≤ k → k < 4 → 0 ≤ I k i ∧ I k i < 16) ∧ ∀ i : Nat, I (a0 + 4) i < 91
theorem c_X6_leadsBelow {a0 n2 a2 N : Nat} {x1 x3 : Int} (hl0 : LyX6 S a0) (hR : rgO I S a0 N) (hc : 0 ≤ x1 ∧ x1 < (N : Nat)) (hn : n2 = 91) : Ca (d + 1) mX6_leadsBelow [vR (some (16, 0, a0)), vI x1, vR (some (1, n2, a2)), vI x3] (I, S) (.inl (some (vI (if anyB (fun q => lbA (I (a0 + 3)) (I (a0 + 4)) (I a2) I ((x1 * 3) + (q : Int)) x3) 3 = true then 1 else 0)))) (I, S) := by
  obtain ⟨h1, h2, h3, h4, h5⟩ := hR
  refine w_X6_leadsBelow_0 hl0 ?_
  refine up_loopN (P := fun q => anyB (fun q => lbA (I (a0 + 3)) (I (a0 + 4)) (I a2) I ((x1 * 3) + (q : Int)) x3) q = false → L_X6_leadsBelow_3 d a0 x1 n2 a2 x3 (q : Int) I S (if anyB (fun q => lbA (I (a0 + 3)) (I (a0 + 4)) (I a2) I ((x1 * 3) + (q : Int)) x3) 3 = true then 1 else 0) (I, S)) (n := 3) ?_ ?_ rfl
  · intro hf
    exact w_X6_leadsBelow_3 (J1 := I) (z1 := true) hl0 (fun h => absurd h (by decide)) (fun h => absurd h (by decide)) (fun _ => by rw [hf]; rfl) (r2 := fun h => absurd h (by decide))
  · intro q hq ih hf
    have hcall := c_X6_leadsBelowBy (d := d) (I := I) (S := S) (a0 := a0) (n2 := n2) (a2 := a2) (x1 := (x1 * 3) + (q : Int)) (x3 := x3) hl0 (by rw [h3]; omega) (by omega) h4 (fun i => by rw [hn]; exact h5 i)
    have hB : lbB I a0 a2 ((x1 * 3) + (q : Int)) x3 = lbA (I (a0 + 3)) (I (a0 + 4)) (I a2) I ((x1 * 3) + (q : Int)) x3 := rfl
    rw [hB] at hcall
    by_cases hb : lbA (I (a0 + 3)) (I (a0 + 4)) (I a2) I ((x1 * 3) + (q : Int)) x3 = true
    · rw [hb] at hcall
      exact w_X6_leadsBelow_3 (J1 := I) (z1 := true) hl0 (fun _ => hcall) (fun _ h => absurd rfl h) (fun h => absurd h (by omega)) (r2 := fun _ _ => by rw [anyB_yes (p := fun q => lbA (I (a0 + 3)) (I (a0 + 4)) (I a2) I ((x1 * 3) + (q : Int)) x3) hq hb]; rfl)
    · rw [Bool.eq_false_iff.mpr hb] at hcall
      exact w_X6_leadsBelow_3 (J1 := I) (z1 := false) hl0 (fun _ => hcall) (fun _ _ => ih (anyB_succ hf (Bool.eq_false_iff.mpr hb))) (fun h => absurd h (by omega)) (r2 := fun _ h => absurd h (by decide))
theorem c_X3_addLevel {a0 a1 N : Nat} {x2 : Int} (hl0 : LyX3 S a0) (hl1 : LyX6 S a1) (hR : rgO I S a1 N) (hx : 1 ≤ x2 ∧ x2 ≤ 100) (ha : a0 + 5 ≠ a1 ∧ a0 + 5 ≠ a1 + 3 ∧ a0 + 5 ≠ a1 + 4 ∧ 31 ≤ a0) : Ca (d + 2) mX3_addLevel [vR (some (14, 0, a0)), vR (some (16, 0, a1)), vI x2] (I, S) (.inl (some (vI (if lvC (ledC (I (a1 + 3)) (I (a1 + 4)) I x2) x2 N (I (a0 + 5)) = true then 1 else 0)))) (up1 I (a0 + 5) (lvR (ledC (I (a1 + 3)) (I (a1 + 4)) I x2) x2 N (I (a0 + 5))), S) := by
  obtain ⟨led, hled⟩ : ∃ led, led = ledC (I (a1 + 3)) (I (a1 + 4)) I x2 := ⟨_, rfl⟩
  rw [← hled]
  have h1N := hR.1
  have h91 := hR.2.1
  refine w_X3_addLevel_0 (d := d + 1) hl0 hl1 ?_
  refine up_loopN (P := fun c => ∀ X, X = up1 I (a0 + 5) (lvR led x2 c (I (a0 + 5))) → L_X3_addLevel_5 (d + 1) a0 a1 x2 (if lvC led x2 c (I (a0 + 5)) = true then 1 else 0) (c : Int) X S (if lvC led x2 N (I (a0 + 5)) = true then 1 else 0) (up1 I (a0 + 5) (lvR led x2 N (I (a0 + 5))), S)) (n := N) ?_ ?_ I (up1_self I (a0 + 5)).symm
  · intro X hX
    have x1 : X a1 1 = (N : Int) := by rw [hX, up1_o _ (Ne.symm ha.1)]; exact h1N
    exact w_X3_addLevel_5 (J1 := X) (z1 := true) hl0 hl1 (fun h => absurd h (by omega)) (fun h => absurd h (by omega)) (fun h => absurd h (by omega)) (fun h => absurd h (by omega)) (fun _ => rfl) (e1 := fun _ => by rw [hX]) (v1 := fun _ => ite01 _)
  · intro c hc ih X hX
    have x1 : X a1 1 = (N : Int) := by rw [hX, up1_o _ (Ne.symm ha.1)]; exact h1N
    have xl : X (a0 + 5) (c : Int).toNat = lvR led x2 c (I (a0 + 5)) c := by rw [hX, up1_same, Int.toNat_natCast]
    have hRX : rgO X S a1 N := by
      unfold rgO
      rw [hX, up1_o _ (Ne.symm ha.1), up1_o _ (Ne.symm ha.2.2.1)]
      refine ⟨h1N, h91, hR.2.2.1, fun k i hk1 hk => ?_, hR.2.2.2.2⟩
      rw [up1_o _ (by omega)]
      exact hR.2.2.2.1 k i hk1 hk
    have hRs : lvR led x2 (c + 1) (I (a0 + 5)) = if lvR led x2 c (I (a0 + 5)) c = -1 ∧ led (lvR led x2 c (I (a0 + 5))) c = true then up1 (lvR led x2 c (I (a0 + 5))) c x2 else lvR led x2 c (I (a0 + 5)) := rfl
    have hCs : lvC led x2 (c + 1) (I (a0 + 5)) = (lvC led x2 c (I (a0 + 5)) || decide (lvR led x2 c (I (a0 + 5)) c = -1 ∧ led (lvR led x2 c (I (a0 + 5))) c = true)) := rfl
    by_cases hl1' : lvR led x2 c (I (a0 + 5)) c = -1
    · have hcall := c_X6_leadsBelow (d := d) (I := X) (S := S) (a0 := a1) (n2 := 91) (a2 := a0 + 5) (N := N) (x1 := (c : Int)) (x3 := x2) hl1 hRX (by omega) rfl
      have hB : anyB (fun q => lbA (X (a1 + 3)) (X (a1 + 4)) (X (a0 + 5)) X (((c : Int) * 3) + (q : Int)) x2) 3 = led (lvR led x2 c (I (a0 + 5))) c := by
        have e : ∀ (l : (Nat → Int) → Nat → Bool) (g : Nat → Int), l = ledC (I (a1 + 3)) (I (a1 + 4)) I x2 → l g c = anyB (fun q => lbA (I (a1 + 3)) (I (a1 + 4)) g I (((c : Int) * 3) + (q : Int)) x2) 3 := fun l g hl => by rw [hl]; rfl
        rw [e led _ hled]
        refine anyB_congr (fun q _ => ?_)
        rw [show X (a1 + 3) = I (a1 + 3) by rw [hX, up1_o _ (Ne.symm ha.2.1)], show X (a1 + 4) = I (a1 + 4) by rw [hX, up1_o _ (Ne.symm ha.2.2.1)], show X (a0 + 5) = lvR led x2 c (I (a0 + 5)) by rw [hX, up1_same]]
        exact lbA_congr (fun k hk => by rw [hX, up1_o _ (by omega)])
      rw [hB] at hcall
      by_cases hb : led (lvR led x2 c (I (a0 + 5))) c = true
      · have hyes : lvR led x2 c (I (a0 + 5)) c = -1 ∧ led (lvR led x2 c (I (a0 + 5))) c = true := ⟨hl1', hb⟩
        rw [hb] at hcall
        rw [hRs, hCs, if_pos hyes, decide_eq_true hyes, Bool.or_true] at ih
        refine w_X3_addLevel_5 (J1 := X) (z1 := true) hl0 hl1 (fun _ h => absurd (xl.trans hl1') h) (fun _ _ => hcall) (fun _ _ h => absurd rfl h) (fun _ _ _ => ih _ ?_) (fun h => absurd h (by omega)) (v1 := fun h => absurd h (by omega))
        rw [i2b_small (by omega), hX, up2_up1, up1_up1, up1_same, Int.toNat_natCast]
      · have hno : ¬(lvR led x2 c (I (a0 + 5)) c = -1 ∧ led (lvR led x2 c (I (a0 + 5))) c = true) := fun w => hb w.2
        rw [Bool.eq_false_iff.mpr hb] at hcall
        rw [hRs, hCs, if_neg hno, decide_eq_false hno, Bool.or_false] at ih
        exact w_X3_addLevel_5 (J1 := X) (z1 := false) hl0 hl1 (fun _ h => absurd (xl.trans hl1') h) (fun _ _ => hcall) (fun _ _ _ => ih _ hX) (fun _ _ h => absurd h (by decide)) (fun h => absurd h (by omega)) (v1 := fun h => absurd h (by omega))
    · have hno : ¬(lvR led x2 c (I (a0 + 5)) c = -1 ∧ led (lvR led x2 c (I (a0 + 5))) c = true) := fun w => hl1' w.1
      rw [hRs, hCs, if_neg hno, decide_eq_false hno, Bool.or_false] at ih
      exact w_X3_addLevel_5 (J1 := X) (z1 := false) hl0 hl1 (fun _ _ => ih _ hX) (fun _ h => absurd (xl.symm.trans h) hl1') (fun _ h => absurd (xl.symm.trans h) hl1') (fun _ h => absurd (xl.symm.trans h) hl1') (fun h => absurd h (by omega)) (v1 := fun h => absurd h (by omega))
/-! extensions -/
theorem foS_some {h : Nat → Option (Nat → Int)} {x : Nat → Int} : ∀ {q c : Nat}, foS h q c = some x → ∃ c', c ≤ c' ∧ c' < c + q ∧ h c' = some x
  | 0, _, e => by cases e
  | q + 1, c, e => by
    have hu : foS h (q + 1) c = match h c with
      | some x => some x
      | none => foS h q (c + 1) := rfl
    rw [hu] at e
    cases hc : h c with
    | some y => rw [hc] at e; exact ⟨c, by omega, by omega, by rw [hc]; exact e⟩
    | none =>
      rw [hc] at e
      obtain ⟨c', h1, h2, h3⟩ := foS_some e
      exact ⟨c', by omega, by omega, h3⟩
theorem exW_in {ed jn : Nat → Nat → Bool} {w : Bool} : ∀ {j v : Nat} {col x : Nat → Int}, exW ed jn w j v col = some x → (∀ i, i < v → x i = col i) ∧ ∀ i, v ≤ i → i < v + j → 0 ≤ x i ∧ x i < 4
  | 0, v, col, x, e => by
    have : col = x := Option.some.inj e
    exact ⟨fun i _ => by rw [this], fun i h1 h2 => absurd h2 (by omega)⟩
  | j + 1, v, col, x, e => by
    obtain ⟨c, h1, h2, h3⟩ := foS_some (h := fun c => if exP ed jn w v col (c : Int) = true then exW ed jn w j (v + 1) (up1 col v (c : Int)) else none) e
    have h3 : (if exP ed jn w v col (c : Int) = true then exW ed jn w j (v + 1) (up1 col v (c : Int)) else none) = some x := h3
    by_cases hb : exP ed jn w v col (c : Int) = true
    · rw [if_pos hb] at h3
      obtain ⟨k1, k2⟩ := exW_in h3
      refine ⟨fun i hi => by rw [k1 i (by omega), up1_o _ (by omega)], fun i q1 q2 => ?_⟩
      by_cases e2 : i = v
      · rw [e2, k1 v (by omega), up1_same]; omega
      · exact k2 i (by omega) (by omega)
    · rw [if_neg hb] at h3; cases h3
theorem fr_C {a0 a1 F V : Nat} {code : Int} {ed jn : Nat → Nat → Bool} {w : Bool} (hl0 : LyX3 S a0) (hl1 : LyX6 S a1) (hE : cEd I a0 V ed jn) (hF : I a0 3 = (F : Int)) (hF1 : I a1 0 = (F : Int)) (hF7 : F ≤ 7) (hV : F ≤ V ∧ V ≤ F + 8) (ha : a0 + 4 ≠ a1) : ∃ J, Ca (d + 20) mX3_fillRing [vR (some (14, 0, a0)), vR (some (16, 0, a1)), vI code, vI (if w = true then (1 : Int) else 0)] (I, S) (.inl (some (vI (if lpE ed jn F V w code = true then 1 else 0)))) (J, S) ∧ (∀ a, a ≠ a0 + 4 → J a = I a) ∧ ∀ x, exW ed jn w (V - F) F (rcG (F : Int) code) = some x → hav (J (a0 + 4)) x V := by
  have h15 := hE.2.1
  have loop : ∀ (t k : Nat) (X : Nat → Nat → Int), k + t = F → (∀ a, a ≠ a0 + 4 → X a = I a) → hav (X (a0 + 4)) (rcG (F : Int) code) k → ∃ J, L_X3_fillRing_11 d a0 a1 code (if w = true then (1 : Int) else 0) (k : Int) X S (if lpE ed jn F V w code = true then 1 else 0) (J, S) ∧ (∀ a, a ≠ a0 + 4 → J a = I a) ∧ ∀ x, exW ed jn w (V - F) F (rcG (F : Int) code) = some x → hav (J (a0 + 4)) x V := by
    intro t
    induction t with
    | zero =>
      intro k X hk hf hh
      have hkF : k = F := by omega
      subst hkF
      have x3 : X a0 3 = (k : Int) := by rw [hf a0 (by omega)]; exact hF
      obtain ⟨J, hcall, hf2, hs, _⟩ := ff_C (S := S) (a0 := a0) (V := V) (ed := ed) (jn := jn) (w := w) hl0 (V - k) k (d + 18) X (rcG (k : Int) code) (by omega) (by omega) (cEd_of hE hf) hh
      refine ⟨J, w_X3_fillRing_11 (b3 := w = true) (J1 := J) (z1 := lpE ed jn k V w code) hl0 hl1 (fun _ => ?_) (fun h => absurd h (by omega)) (fun _ => rfl) (e1 := fun _ => rfl), fun a h => by rw [hf2 a h, hf a h], hs⟩
      rw [x3]
      exact hcall
    | succ t ih =>
      intro k X hk hf hh
      have x3 : X a0 3 = (F : Int) := by rw [hf a0 (by omega)]; exact hF
      have x0 : X a1 0 = (F : Int) := by rw [hf a1 (Ne.symm ha)]; exact hF1
      have h3 := p_and_3 (p_shr code (2 * (X a1 0 - 1 - (k : Int))))
      obtain ⟨c, hc⟩ := Int.eq_ofNat_of_zero_le h3.1
      have hcc : rcG (F : Int) code k = (c : Int) := by rw [← hc, x0]; rfl
      obtain ⟨J, hL, rest⟩ := ih (k + 1) (up2 X (a0 + 4) ((p_and (p_shr code (2 * (X a1 0 - 1 - (k : Int)))) 3).toNat) (p_or (X (a0 + 4) (p_and (p_shr code (2 * (X a1 0 - 1 - (k : Int)))) 3).toNat) (p_shl 1 (k : Int)))) (by omega) (fun a h => by funext j; rw [up2_a _ h, hf a h]) (by
        rw [hc, Int.toNat_natCast, up2_up1, up1_same]
        refine hav_ext (hav_put hh (by omega) (by omega)) (fun i hi => ?_)
        by_cases e : i = k
        · rw [e, up1_same, hcc]
        · rw [up1_o _ e])
      exact ⟨J, w_X3_fillRing_11 (b3 := w = true) (J1 := X) (z1 := true) hl0 hl1 (fun h => absurd h (by omega)) (fun _ => hL) (fun h => absurd h (by omega)) (v4 := fun _ => h3), rest⟩
  obtain ⟨J, hL, rest⟩ := loop F 0 (up1 I (a0 + 4) (upTo (I (a0 + 4)) (fun _ => 0) 0 4)) (by omega) (fun a h => up1_o _ h) (by
    rw [up1_same]
    refine ⟨by omega, fun c hc => ?_⟩
    rw [upTo_in (by omega)]
    exact ⟨⟨by decide, by decide⟩, fun i => by rw [bt_zero]; rfl⟩)
  exact ⟨J, w_X3_fillRing_0 (b3 := w = true) hl0 hl1 hL, rest⟩
/-- a colour of the first extension -/
theorem fx_C {a0 a1 F V : Nat} {code : Int} {i : Nat} {ed jn : Nat → Nat → Bool} (hl0 : LyX3 S a0) (hl1 : LyX6 S a1) (hE : cEd I a0 V ed jn) (hF : I a0 3 = (F : Int)) (hF1 : I a1 0 = (F : Int)) (hF7 : F ≤ 7) (hV : F ≤ V ∧ V ≤ F + 8) (ha : a0 + 4 ≠ a1) (hi : F + i < V) : ∃ J, Ca (d + 21) mX3_firstExtension [vR (some (14, 0, a0)), vR (some (16, 0, a1)), vI code, vI (i : Int)] (I, S) (.inl (some (vI (match exW ed jn false (V - F) F (rcG (F : Int) code) with
    | some x => x (F + i)
    | none => -1)))) (J, S) ∧ ∀ a, a ≠ a0 + 4 → J a = I a := by
  have h15 := hE.2.1
  obtain ⟨J, hcall, hf, hs⟩ := fr_C (d := d) (w := false) (code := code) hl0 hl1 hE hF hF1 hF7 hV ha
  have hcall : Ca (d + 20) mX3_fillRing [vR (some (14, 0, a0)), vR (some (16, 0, a1)), vI code, vI 0] (I, S) (.inl (some (vI (if lpE ed jn F V false code = true then 1 else 0)))) (J, S) := hcall
  have j3 : J a0 3 = (F : Int) := by rw [hf a0 (by omega)]; exact hF
  cases hx : exW ed jn false (V - F) F (rcG (F : Int) code) with
  | none =>
    have hE0 : lpE ed jn F V false code = false := by unfold lpE; rw [hx]; rfl
    rw [hE0] at hcall
    exact ⟨J, w_X3_firstExtension_0 (J1 := J) (z1 := false) hl0 hl1 hcall (fun h => absurd h (by decide)) (fun _ => rfl), hf⟩
  | some x =>
    have hE0 : lpE ed jn F V false code = true := by unfold lpE; rw [hx]; rfl
    rw [hE0] at hcall
    have hh := hs x hx
    have hr := (exW_in hx).2 (F + i) (by omega) (by omega)
    refine ⟨J, w_X3_firstExtension_0 (J1 := J) (z1 := true) hl0 hl1 hcall (fun _ => ?_) (fun h => absurd rfl h) (e1 := fun h => absurd rfl h), hf⟩
    have tst : ∀ c : Nat, c < 4 → (p_and (p_shr (J (a0 + 4) c) (J a0 3 + (i : Int))) 1 ≠ 0 ↔ x (F + i) = (c : Int)) := fun c hc => by
      rw [j3, p_tst_ne (by omega), show ((F : Int) + (i : Int)).toNat = F + i by omega, (hh.2 c hc).2, decide_eq_true hi, Bool.true_and, decide_eq_true_iff]
    have loop : ∀ (t c : Nat), c + t = 4 → (c : Int) ≤ x (F + i) → L_X3_firstExtension_15 d a0 a1 code (i : Int) (c : Int) J S (x (F + i)) (J, S) := by
      intro t
      induction t with
      | zero => intro c hc hle; exact absurd hr.2 (by omega)
      | succ t ih =>
        intro c hc hle
        have ht := tst c (by omega)
        by_cases e : x (F + i) = (c : Int)
        · exact w_X3_firstExtension_15 hl0 hl1 (fun _ h => absurd h (ht.mpr e)) (fun h => absurd h (by omega)) (r2 := fun _ _ => e.symm)
        · exact w_X3_firstExtension_15 hl0 hl1 (fun _ _ => ih (c + 1) (by omega) (by omega)) (fun h => absurd h (by omega)) (r2 := fun _ h => absurd (ht.mp h) e)
    exact loop 4 0 rfl hr.1
end
end
