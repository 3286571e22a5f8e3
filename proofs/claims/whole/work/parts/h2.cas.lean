/-! ===== cases told: the class's ===== -/
noncomputable section
/-- positive ones, covered ones, the least open one, the greatest charge: of the least rows below a number -/
def tyQ (ch : Nat → Int) (h : Nat) : Nat → Int
  | 0 => 0
  | c + 1 => if llK h c = true then (if ch c ≤ 0 then tyQ ch h c else tyQ ch h c + 1) else tyQ ch h c
def tyC (ch : Nat → Int) (cv : Nat → Bool) (h : Nat) : Nat → Int
  | 0 => 0
  | c + 1 => if llK h c = true then (if ch c ≤ 0 then tyC ch cv h c else if cv c = true then tyC ch cv h c + 1 else tyC ch cv h c) else tyC ch cv h c
def tyL (ch : Nat → Int) (cv : Nat → Bool) (h : Nat) : Nat → Int
  | 0 => -1
  | c + 1 => if llK h c = true then (if ch c ≤ 0 then tyL ch cv h c else if cv c = true then tyL ch cv h c else if tyL ch cv h c ≠ -1 then tyL ch cv h c else dsI (rw3 c h) h) else tyL ch cv h c
def tyM (m0 : Int) (ch : Nat → Int) (h : Nat) : Nat → Int
  | 0 => m0
  | c + 1 => if llK h c = true then max (tyM m0 ch h c) (ch c) else tyM m0 ch h c
theorem tyQ_in (ch : Nat → Int) (cv : Nat → Bool) (h : Nat) : ∀ c : Nat, (0 ≤ tyC ch cv h c ∧ tyC ch cv h c ≤ tyQ ch h c) ∧ tyQ ch h c ≤ (cL h c : Int)
  | 0 => ⟨⟨Int.le_refl 0, Int.le_refl 0⟩, Int.le_refl 0⟩
  | c + 1 => by
    have ih := tyQ_in ch cv h c
    have hst : cL h (c + 1) = cL h c + (if llK h c = true then 1 else 0) := rfl
    rw [hst]
    unfold tyC tyQ
    by_cases hl : llK h c = true
    · rw [if_pos hl, if_pos hl, if_pos hl]
      by_cases h0 : ch c ≤ 0
      · rw [if_pos h0, if_pos h0]; omega
      · rw [if_neg h0, if_neg h0]
        split <;> omega
    · rw [if_neg hl, if_neg hl, if_neg hl]; exact ih
theorem tyM_in {m0 B : Int} {ch : Nat → Int} {h : Nat} (hb : ∀ c, -B ≤ ch c ∧ ch c ≤ B) (hm : m0 ≤ B) : ∀ c : Nat, m0 ≤ tyM m0 ch h c ∧ tyM m0 ch h c ≤ B
  | 0 => ⟨Int.le_refl _, hm⟩
  | c + 1 => by
    have ih := tyM_in (h := h) hb hm c
    have := hb c
    unfold tyM
    split <;> omega
/-- the greatest charge as the class keeps it: 0 ahead of the first case -/
def tyZ (ch : Nat → Int) (h c : Nat) : Int := if (cL h c : Int) ≠ 0 then tyM (-2147483648) ch h c else 0
theorem tyM_0 {m0 : Int} {ch : Nat → Int} {h : Nat} : ∀ c : Nat, cL h c = 0 → tyM m0 ch h c = m0
  | 0, _ => rfl
  | c + 1, e => by
    have hst : cL h (c + 1) = cL h c + (if llK h c = true then 1 else 0) := rfl
    have hl : ¬(llK h c = true) := fun q => by rw [if_pos q] at hst; omega
    rw [if_neg hl] at hst
    show (if llK h c = true then max (tyM m0 ch h c) (ch c) else tyM m0 ch h c) = m0
    rw [if_neg hl]
    exact tyM_0 c (by omega)
theorem cL_pos {h : Nat} (hh : h = 5 ∨ h = 6 ∨ h = 7) : 0 < cL h (3 ^ h) := by
  have h0 : llK h 0 = true := by rcases hh with e | e | e <;> subst e <;> decide +kernel
  have hst : cL h 1 = cL h 0 + (if llK h 0 = true then 1 else 0) := rfl
  rw [if_pos h0] at hst
  have := cL_mono h (show 1 ≤ 3 ^ h from Nat.pow_pos (by decide))
  omega
theorem tyZ_end {ch : Nat → Int} {h : Nat} (hh : h = 5 ∨ h = 6 ∨ h = 7) : tyZ ch h (3 ^ h) = tyM (-2147483648) ch h (3 ^ h) := by
  have := cL_pos hh
  exact if_pos (by omega)
theorem tyZ_y {ch : Nat → Int} {h c : Nat} (hb : ∀ c, -10000 ≤ ch c ∧ ch c ≤ 10000) (hl : llK h c = true) : (if (cL h c : Int) ≠ 0 then (p_max (tyZ ch h c) (ch c) : Int) else ch c) = tyZ ch h (c + 1) := by
  have hst : cL h (c + 1) = cL h c + (if llK h c = true then 1 else 0) := rfl
  rw [if_pos hl] at hst
  have hM := tyM_in (m0 := -2147483648) (B := 10000) (h := h) hb (by decide) c
  have hbc := hb c
  have em : tyM (-2147483648) ch h (c + 1) = max (tyM (-2147483648) ch h c) (ch c) := if_pos hl
  have e1 : tyZ ch h (c + 1) = tyM (-2147483648) ch h (c + 1) := if_pos (by omega)
  rw [e1, em]
  by_cases w : (cL h c : Int) ≠ 0
  · rw [if_pos w, show tyZ ch h c = tyM (-2147483648) ch h c from if_pos w, p_max_eq (by omega) (by omega)]
  · rw [if_neg w, tyM_0 c (by omega)]
    omega
theorem tyZ_n {ch : Nat → Int} {h c : Nat} (hl : ¬(llK h c = true)) : tyZ ch h (c + 1) = tyZ ch h c := by
  have hst : cL h (c + 1) = cL h c + (if llK h c = true then 1 else 0) := rfl
  rw [if_neg hl] at hst
  have hst' : cL h (c + 1) = cL h c := hst
  have em : tyM (-2147483648) ch h (c + 1) = tyM (-2147483648) ch h c := if_neg hl
  unfold tyZ
  rw [hst', em]
section
variable {d : Nat} {I : Nat → Nat → Int} {S : PS} {T h : Nat}
def chW (I : Nat → Nat → Int) (T h c : Nat) : Int := chN (sC I T) (rw3 c h) (h : Int) h
def hwC (I : Nat → Nat → Int) (T h c : Nat) : Int := btN (fun p => hlB (I (T + 7 + 9 * p) 0) (I (T + 7 + 9 * p) 1) (h : Int) (I (T + 7 + 9 * p + 1)) (rw3 c h)) (I T 1).toNat
theorem chW_bd (hh : h = 5 ∨ h = 6 ∨ h = 7) (hr : cRl I T) (c : Nat) : -10000 ≤ chW I T h c ∧ chW I T h c ≤ 10000 := by
  have := chN_bd (sn := sC I T) (f := rw3 c h) (dg := (h : Int)) (by omega) (fun x y z w => snC_bd hr x y z w) h
  unfold chW
  omega
theorem td_row {X : Nat → Nat → Int} {c : Nat} {x : Int} (hx : x = dsI (rw3 c h) h) : (∀ a, a ≠ 124 → tdI X x (h : Int) a = X a) ∧ ∀ j, j < h → tdI X x (h : Int) 124 j = rw3 c h j := by
  refine ⟨fun a ha => up1_o X ha, fun j hj => ?_⟩
  unfold tdI
  rw [up1_same, Int.toNat_natCast, upTo_in (by omega), hx]
  exact td_ds (fun k => by have := rw3_in c h k; omega) hj
/-- what the tally writes -/
theorem ta_C {x4 : Int} (hl0 : LyX1 S) (hl2 : LyX0 S T) (hT : T = 34 ∨ T = 77) (hh : h = 5 ∨ h = 6 ∨ h = 7) (hr : cRl I T) (hp : cPi I T) (hc : ∀ h', (h' = 5 ∨ h' = 6 ∨ h' = 7) → csO I h') : ∃ J, Ca (d + 5) mX1_tally [vR (some (12, 0, 121)), vI (h : Int), vR (some (11, 0, T)), vR (some (0, 6, 129)), vI x4] (I, S) (.inl none) (J, S) ∧ (∀ a, a ≠ 122 → a ≠ 123 → a ≠ 124 → a ≠ 125 → J a = I a) ∧ (∀ h', (h' = 5 ∨ h' = 6 ∨ h' = 7) → csO J h') ∧ J 125 0 = (cL h (3 ^ h) : Int) ∧ J 125 1 = tyQ (chW I T h) h (3 ^ h) ∧ J 125 2 = tyC (chW I T h) (fun c => decide (p_and (hwC I T h c) x4 ≠ 0)) h (3 ^ h) ∧ J 125 3 = tyQ (chW I T h) h (3 ^ h) - tyC (chW I T h) (fun c => decide (p_and (hwC I T h c) x4 ≠ 0)) h (3 ^ h) ∧ J 125 4 = tyL (chW I T h) (fun c => decide (p_and (hwC I T h c) x4 ≠ 0)) h (3 ^ h) ∧ J 125 5 = tyM (-2147483648) (chW I T h) h (3 ^ h) := by
  have hle := cL_le hh
  have hp3 := p3_le hh
  obtain ⟨cv, hcv⟩ : ∃ cv : Nat → Bool, cv = fun c => decide (p_and (hwC I T h c) x4 ≠ 0) := ⟨_, rfl⟩
  rw [← hcv]
  obtain ⟨ch, hch⟩ : ∃ ch : Nat → Int, ch = chW I T h := ⟨_, rfl⟩
  rw [← hch]
  have hbd : ∀ c, -10000 ≤ ch c ∧ ch c ≤ 10000 := fun c => by rw [hch]; exact chW_bd hh hr c
  have hrc := hr.1
  have main : ∀ (t c : Nat) (X : Nat → Nat → Int), c + t = 3 ^ h → (∀ a, a ≠ 122 → a ≠ 123 → a ≠ 124 → X a = I a) → csR X h → (∀ h', (h' = 5 ∨ h' = 6 ∨ h' = 7) → csO X h') →
      ∃ J, L_X1_tally_41 d 121 (h : Int) T 6 129 x4 (cL h (3 ^ h) : Int) (tyQ ch h c) (tyC ch cv h c) (tyL ch cv h c) (tyZ ch h c) (cL h c : Int) X S (J, S) ∧ (∀ a, a ≠ 122 → a ≠ 123 → a ≠ 124 → a ≠ 125 → J a = I a) ∧ (∀ h', (h' = 5 ∨ h' = 6 ∨ h' = 7) → csO J h') ∧ J 125 0 = (cL h (3 ^ h) : Int) ∧ J 125 1 = tyQ ch h (3 ^ h) ∧ J 125 2 = tyC ch cv h (3 ^ h) ∧ J 125 3 = tyQ ch h (3 ^ h) - tyC ch cv h (3 ^ h) ∧ J 125 4 = tyL ch cv h (3 ^ h) ∧ J 125 5 = tyM (-2147483648) ch h (3 ^ h) := by
    intro t
    induction t with
    | zero =>
      intro c X hct hX hR hO
      obtain rfl : c = 3 ^ h := by omega
      have hq := tyQ_in ch cv h (3 ^ h)
      refine ⟨_, w_X1_tally_41 hl0 hl2 (fun q => absurd q (by omega)) (e1 := fun _ => rfl) (v5 := fun q => absurd q (by omega)) (v6 := fun q => absurd q (by omega)) (v9 := fun q => absurd q (by omega)) (v10 := fun q => absurd q (by omega)) (v13 := fun q => absurd q (by omega)) (v14 := fun q => absurd q (by omega)), fun a h1 h2 h3 h4 => ?_, fun h' hh' => ?_, rfl, rfl, rfl, rfl, rfl, tyZ_end hh⟩
      · rw [← hX a h1 h2 h3]
        funext j
        rw [up2_a _ h4, up2_a _ h4, up2_a _ h4, up2_a _ h4, up2_a _ h4, up2_a _ h4]
      · exact hO h' hh'
    | succ t ih =>
      intro c X hct hX hR hO
      have hc3 : c < 3 ^ h := by omega
      have hst : cL h (c + 1) = cL h c + (if llK h c = true then 1 else 0) := rfl
      have hm := cL_mono h (show c + 1 ≤ 3 ^ h from hc3)
      have hq := tyQ_in ch cv h c
      by_cases hl : llK h c = true
      · have hlt := cL_lt hh hc3 hl
        rw [if_pos hl] at hst
        have eix : ((((h : Int) - 5) * 198) + (cL h c : Int)).toNat = 198 * (h - 5) + cL h c := by omega
        have eds : X 122 ((((h : Int) - 5) * 198) + (cL h c : Int)).toNat = dsI (rw3 c h) h := by rw [eix]; exact hR c hc3 hl
        obtain ⟨Y, hY⟩ : ∃ Y, Y = tdI X (X 122 ((((h : Int) - 5) * 198) + (cL h c : Int)).toNat) (h : Int) := ⟨_, rfl⟩
        obtain ⟨yo, yr⟩ := td_row (X := X) eds
        rw [← hY] at yo yr
        have yI : ∀ a, a ≠ 122 → a ≠ 123 → a ≠ 124 → Y a = I a := fun a h1 h2 h3 => by rw [yo a h3]; exact hX a h1 h2 h3
        have eY2 : Y (T + 2) 0 = I (T + 2) 0 := by rw [yI (T + 2) (by omega) (by omega) (by omega)]
        have ech : bhC Y (T + 2) 124 129 (h : Int) (Y (T + 2) 0).toNat = ch c := by
          rw [bhC_chN Y (T + 2) 124 129 (h : Int) (by omega), hch]
          unfold chW
          rw [Int.toNat_natCast]
          refine chN_congr (by omega) (fun x y z w => ?_) (fun k hk => yr k (by omega)) h (by omega)
          rw [eY2]
          exact snC_fr (a := T + 2) (yI (T + 2 + 1) (by omega) (by omega) (by omega)) (yI 129 (by decide) (by decide) (by decide)) x y z w _
        have hpi := hp.1
        have eho : hoC Y T 124 (h : Int) (Y T 1).toNat = hwC I T h c := by
          rw [hoC_bt, yI T (by omega) (by omega) (by omega)]
          unfold hwC
          refine btN_congr (fun p hp' => ?_)
          rw [heC_hl (by omega), yI (T + 7 + 9 * p) (by omega) (by omega) (by omega), yI (T + 7 + 9 * p + 1) (by omega) (by omega) (by omega)]
          exact hlB_congr (by omega) (fun k hk => yr k (by omega))
        have eYR : csR Y h := fun c' hc' hl' => by rw [yo 122 (by decide)]; exact hR c' hc' hl'
        have eYO : ∀ h', (h' = 5 ∨ h' = 6 ∨ h' = 7) → csO Y h' := fun h' hh' => by
          have := hO h' hh'
          unfold csO csR at this ⊢
          rw [yo 123 (by decide), yo 122 (by decide)]; exact this
        obtain ⟨J, q1, q2⟩ := ih (c + 1) Y (by omega) yI eYR eYO
        have hbc := hbd c
        have hdl := dsI_le (f := rw3 c h) (n := h) (fun k _ => by have := rw3_in c h k; omega)
        have hp10 : (10 : Int) ^ h ≤ 10000000 := by rcases hh with rfl | rfl | rfl <;> decide
        have hdd : 0 ≤ dsI (rw3 c h) h ∧ dsI (rw3 c h) h ≤ 2147483647 := ⟨hdl.1, by generalize (10 : Int) ^ h = P at *; omega⟩
        refine ⟨J, w_X1_tally_41 hl0 hl2 (fun _ => ?_) (e1 := fun q => absurd q (by omega)) (v5 := fun _ => by omega) (v6 := fun _ => by rw [eds]; exact hdd) (v9 := fun _ => by rw [← hY, eY2]; exact hrc) (v10 := fun _ k hk => by rw [← hY, eY2] at hk; rw [← hY, yI 129 (by decide) (by decide) (by decide)]; exact hr.2 k hk) (v13 := fun _ _ => by rw [← hY, yI T (by omega) (by omega) (by omega)]; exact hp.1) (v14 := fun _ _ p hp' => by rw [← hY, yI T (by omega) (by omega) (by omega)] at hp'; rw [← hY, yI (T + 7 + 9 * p) (by omega) (by omega) (by omega)]; exact hp.2 p hp'), q2⟩
        rw [← hY, ech, eho, eds, tyZ_y hbd hl]
        have eq : (if ch c ≤ 0 then (tyQ ch h c : Int) else tyQ ch h c + 1) = tyQ ch h (c + 1) := by
          show _ = if llK h c = true then _ else _
          rw [if_pos hl]
        have ec : (if ch c ≤ 0 then (tyC ch cv h c : Int) else (if p_and (hwC I T h c) x4 = 0 then (tyC ch cv h c : Int) else tyC ch cv h c + 1)) = tyC ch cv h (c + 1) := by
          show _ = if llK h c = true then _ else _
          rw [if_pos hl, hcv]
          by_cases w : p_and (hwC I T h c) x4 = 0
          · rw [if_pos w, if_neg (show ¬(decide (p_and (hwC I T h c) x4 ≠ 0) = true) by rw [decide_eq_false (fun q => q w)]; decide)]
          · rw [if_neg w, if_pos (decide_eq_true w)]
        have el : (if ch c ≤ 0 then (tyL ch cv h c : Int) else (if p_and (hwC I T h c) x4 = 0 then ((if tyL ch cv h c ≠ (-1) then (tyL ch cv h c : Int) else dsI (rw3 c h) h) : Int) else tyL ch cv h c)) = tyL ch cv h (c + 1) := by
          show _ = if llK h c = true then _ else _
          rw [if_pos hl, hcv]
          by_cases w : p_and (hwC I T h c) x4 = 0
          · rw [if_pos w, if_neg (show ¬(decide (p_and (hwC I T h c) x4 ≠ 0) = true) by rw [decide_eq_false (fun q => q w)]; decide)]
          · rw [if_neg w, if_pos (decide_eq_true w)]
        rw [eq, ec, el]
        rw [hst] at q1
        exact q1
      · rw [if_neg hl, Nat.add_zero] at hst
        obtain ⟨J, q1, q2⟩ := ih (c + 1) X (by omega) hX hR hO
        have eq : tyQ ch h (c + 1) = tyQ ch h c := if_neg hl
        have ec : tyC ch cv h (c + 1) = tyC ch cv h c := if_neg hl
        have el : tyL ch cv h (c + 1) = tyL ch cv h c := if_neg hl
        have em : tyZ ch h (c + 1) = tyZ ch h c := tyZ_n hl
        rw [hst, eq, ec, el, em] at q1
        exact ⟨J, q1, q2⟩
  have e5 : ((h : Int) - 5).toNat = h - 5 := by omega
  by_cases h0 : I 123 (h - 5) = 0
  · obtain ⟨J1, f1, f2, f3, f4, f5⟩ := fr_rows (d := d + 1) (I := I) hl0 hh
    obtain ⟨J, q1, q2⟩ := main (3 ^ h) 0 J1 (by omega) f2 f4 (fun h' hh' => by
      by_cases e : h' = h
      · rw [e]
        exact Or.inr ⟨by rw [f3, up1_same], f4⟩
      · have := hc h' hh'
        unfold csO csR at this ⊢
        rw [f3, up1_o _ (by omega)]
        refine this.imp id (fun w => ⟨w.1, fun c' hc' hl' => ?_⟩)
        have := cL_lt hh' hc' hl'
        rw [f5 _ (by omega)]
        exact w.2 c' hc' hl')
    refine ⟨J, w_X1_tally_0 (J1 := J1) hl0 hl2 (fun q => absurd (by rw [e5]; exact h0) q) (fun _ => f1) (fun _ => ?_) (v2 := by omega), q2⟩
    rw [e5, f3, up1_same]
    exact q1
  · have hcc : I 123 (h - 5) = (cL h (3 ^ h) : Int) ∧ csR I h := (hc h hh).resolve_left h0
    obtain ⟨J, q1, q2⟩ := main (3 ^ h) 0 I (by omega) (fun _ _ _ _ => rfl) hcc.2 hc
    refine ⟨J, w_X1_tally_0 (J1 := I) hl0 hl2 (fun _ => ?_) (fun q => absurd (by rw [e5] at q; exact q) h0) (fun q => absurd (by rw [e5] at q; exact q) h0) (v2 := by omega), q2⟩
    rw [e5, hcc.1]
    exact q1
end
end
