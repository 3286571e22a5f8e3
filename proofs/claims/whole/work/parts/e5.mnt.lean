/-! ===== whose amount it was, by both ===== -/
noncomputable section
section
variable {d : Nat} {I : Nat → Nat → Int} {S : PS}
/-- of ways told by number: how many, and the first as it is answered -/
def mnO (f : Int) : Int := if f = -1 then -1 else 100 * (f / 99) + (f % 99 + 1)
def mnC (Q : Nat → Bool) (m : Nat) : Int := smI (fun j => if Q j = true then 1 else 0) m
def mnF (Q : Nat → Bool) (m : Nat) : Int := mnO (fstB Q m)
theorem mnC_t {Q : Nat → Bool} {m : Nat} (h : Q m = true) : mnC Q (m + 1) = mnC Q m + 1 := by
  show smI _ m + (if Q m = true then 1 else 0) = _
  rw [if_pos h]; rfl
theorem mnC_f {Q : Nat → Bool} {m : Nat} (h : Q m = false) : mnC Q (m + 1) = mnC Q m := by
  show smI _ m + (if Q m = true then 1 else 0) = _
  rw [h, if_neg (by decide), Int.add_zero]; rfl
theorem mnC_le (Q : Nat → Bool) (m : Nat) : 0 ≤ mnC Q m ∧ mnC Q m ≤ m := by
  have := smI_le (g := fun j => if Q j = true then 1 else 0) (m := 1) (n := m) (fun k _ => by
    show 0 ≤ (if Q k = true then (1 : Int) else 0) ∧ (if Q k = true then (1 : Int) else 0) ≤ 1
    split <;> decide)
  unfold mnC
  omega
theorem mnC_0 (Q : Nat → Bool) : ∀ m : Nat, mnC Q m = 0 ↔ fstB Q m = -1 := by
  intro m
  induction m with
  | zero => exact ⟨fun _ => rfl, fun _ => rfl⟩
  | succ m ih =>
    have hl := mnC_le Q m
    cases h : Q m with
    | true =>
      rw [mnC_t h]
      refine ⟨fun c => absurd c (by omega), fun c => ?_⟩
      by_cases e : fstB Q m = -1
      · rw [fstB_here e h (Nat.lt_succ_self m)] at c; omega
      · rw [fstB_stay rfl e (m + 1) (by omega)] at c; exact absurd c e
    | false =>
      rw [mnC_f h, ih]
      constructor
      · intro e; exact fstB_succ e h
      · intro c
        by_cases e : fstB Q m = -1
        · exact e
        · rw [fstB_stay rfl e (m + 1) (by omega)] at c; exact c
theorem fstB_nn (Q : Nat → Bool) : ∀ m : Nat, fstB Q m = -1 ∨ 0 ≤ fstB Q m := by
  intro m
  induction m with
  | zero => exact Or.inl rfl
  | succ m ih =>
    by_cases e : fstB Q m = -1
    · cases h : Q m with
      | true => rw [fstB_here e h (Nat.lt_succ_self m)]; exact Or.inr (by omega)
      | false => exact Or.inl (fstB_succ e h)
    · rw [fstB_stay rfl e (m + 1) (by omega)]; exact ih
theorem mnF_m1 (Q : Nat → Bool) (m : Nat) : mnF Q m = -1 ↔ fstB Q m = -1 := by
  unfold mnF mnO
  have := fstB_nn Q m
  by_cases e : fstB Q m = -1
  · rw [if_pos e]; exact ⟨fun _ => e, fun _ => rfl⟩
  · rw [if_neg e]; exact ⟨fun c => absurd c (by omega), fun c => absurd c e⟩
theorem mnF_f {Q : Nat → Bool} {m : Nat} (h : Q m = false) : mnF Q (m + 1) = mnF Q m := by
  unfold mnF
  by_cases e : fstB Q m = -1
  · rw [fstB_succ e h, e]
  · rw [fstB_stay rfl e (m + 1) (by omega)]
theorem mnF_t {Q : Nat → Bool} {m : Nat} (h : Q m = true) : mnF Q (m + 1) = if fstB Q m ≠ -1 then mnF Q m else 100 * ((m : Int) / 99) + ((m : Int) % 99 + 1) := by
  unfold mnF
  by_cases e : fstB Q m = -1
  · rw [if_neg (fun c => c e), fstB_here e h (Nat.lt_succ_self m)]
    unfold mnO
    rw [if_neg (by omega)]
  · rw [if_pos e, fstB_stay rfl e (m + 1) (by omega)]
/-- a way of the class: amount m % 99 + 1 of rule m / 99 -/
def mtA (I : Nat → Nat → Int) (T r : Nat) (x : Int) : Bool := allB (fun i => decide (x * ntN I T (r : Int) (I 133 i) = I 134 i - ccs I T (I 133 i))) (I 126 6).toNat
def mtQ (I : Nat → Nat → Int) (T : Nat) (m : Nat) : Bool := decide (((m % 99 + 1 : Nat) : Int) - I 129 (m / 99) ≠ 0) && mtA I T (m / 99) (((m % 99 + 1 : Nat) : Int) - I 129 (m / 99))
theorem m99 (r a : Nat) (h : 1 ≤ a ∧ a ≤ 99) : (99 * r + (a - 1)) / 99 = r ∧ (99 * r + (a - 1)) % 99 + 1 = a := by omega
/-- noted spots and charges of the class -/
def cNo (I : Nat → Nat → Int) (T : Nat) : Prop := (0 ≤ I 126 6 ∧ I 126 6 ≤ 8) ∧ ∀ i : Nat, (i : Int) < I 126 6 → (0 ≤ I 133 i ∧ I 133 i < I T 6) ∧ -999 ≤ I 134 i ∧ I 134 i ≤ 999
theorem mt_C {x1 : Int} {T U : Nat} (hl0 : LyX11 S T U) (hT : T = 34 ∨ T = 77) (hm : cSp I T) (hr : cRl I T) (hn : cNo I T) (hb : ∀ k : Nat, k < 8 → -100 ≤ I 154 k ∧ I 154 k ≤ 100) (hx : 0 ≤ x1 ∧ x1 ≤ 2) :
    ∃ J, Ca (d + 7) mX11_meant [vR (some (21, 0, 31)), vI x1] (I, S) (.inl (some (vI (if x1 = 2 then (if allB (fun i => decide (ccs I T (I 133 i) = I 134 i)) (I 126 6).toNat = true then 1 else 0) else if x1 ≠ 0 then mnF (mtQ I T) (99 * (I (T + 2) 0).toNat) else mnC (mtQ I T) (99 * (I (T + 2) 0).toNat))))) (J, S) ∧ (∀ a, a ≠ 152 → a ≠ 153 → a ≠ 154 → J a = I a) ∧ ∀ k : Nat, k < 8 → -100 ≤ J 154 k ∧ J 154 k ≤ 100 := by
  obtain ⟨J0, c0, f0, l0⟩ := fl_C (d := d + 1) hl0 hT hm hr hn.1 hn.2
  have f0' : ∀ a, a ≠ 152 → a ≠ 153 → a ≠ 154 → J0 a = I a := fun a h1 h2 _ => f0 a h1 h2
  have b0 : ∀ k : Nat, k < 8 → -100 ≤ J0 154 k ∧ J0 154 k ≤ 100 := fun k hk => by rw [f0 154 (by omega) (by omega)]; exact hb k hk
  have e126 : J0 126 6 = I 126 6 := by rw [f0 126 (by omega) (by omega)]
  have hn1 := hn.1
  by_cases h2 : x1 = 2
  · refine ⟨J0, w_X11_meant_0 (r := (.inl (some (vI _)), (J0, S))) (J1 := J0) hl0 (fun _ _ => c0) (fun _ _ h => absurd h2 h) (fun h => absurd h (by omega)) (fun _ _ _ => ?_) (r3 := fun _ h => absurd h (by omega)) (v1 := fun _ _ _ => by omega) (v2 := fun _ _ _ k hk => b0 k (by omega)), f0', b0⟩
    have : allB (fun k => decide (0 * J0 154 k = J0 153 k)) (J0 126 6).toNat = allB (fun i => decide (ccs I T (I 133 i) = I 134 i)) (I 126 6).toNat := by
      rw [e126]
      refine allB_congr (fun i hi => ?_)
      show decide (0 * J0 154 i = J0 153 i) = decide (ccs I T (I 133 i) = I 134 i)
      rw [l0 i (by omega), Int.zero_mul]
      exact decide_eq_decide.mpr (by omega)
    rw [this, if_pos h2]
  have outer : ∀ (t r : Nat) (X : Nat → Nat → Int), r + t = (I (T + 2) 0).toNat → (∀ a, a ≠ 152 → a ≠ 153 → a ≠ 154 → X a = I a) → (∀ i : Nat, (i : Int) < I 126 6 → X 153 i = I 134 i - ccs I T (I 133 i)) → (∀ k : Nat, k < 8 → -100 ≤ X 154 k ∧ X 154 k ≤ 100) →
      ∃ J, L_X11_meant_47 d 31 x1 (mnC (mtQ I T) (99 * r)) (mnF (mtQ I T) (99 * r)) (r : Int) X S (.inl (some (vI (if x1 ≠ 0 then mnF (mtQ I T) (99 * (I (T + 2) 0).toNat) else mnC (mtQ I T) (99 * (I (T + 2) 0).toNat)))), (J, S)) ∧ (∀ a, a ≠ 152 → a ≠ 153 → a ≠ 154 → J a = I a) ∧ ∀ k : Nat, k < 8 → -100 ≤ J 154 k ∧ J 154 k ≤ 100 := by
    intro t
    induction t with
    | zero =>
      intro r X hk fX lX bX
      have eR : X (T + 2) 0 = I (T + 2) 0 := by rw [fX (T + 2) (by omega) (by omega) (by omega)]
      have hr1 := hr.1
      exact ⟨X, w_X11_meant_47 (J1 := X) hl0 (fun h => absurd h (by omega)) (fun h => absurd h (by omega)) (fun _ => by rw [show r = (I (T + 2) 0).toNat by omega]), fX, bX⟩
    | succ t ih =>
      intro r X hk fX lX bX
      have eR : X (T + 2) 0 = I (T + 2) 0 := by rw [fX (T + 2) (by omega) (by omega) (by omega)]
      have eN : X 126 6 = I 126 6 := by rw [fX 126 (by omega) (by omega) (by omega)]
      have e133 : X 133 = I 133 := fX 133 (by omega) (by omega) (by omega)
      have hr1 := hr.1
      have hmX : cSp X T := cSp_fr (fun a h => fX a (by omega) (by omega) (by omega)) hm
      obtain ⟨J1, c1, f1, n1, o1⟩ := fN_C (d := d + 3) (x1 := (r : Int)) hl0 hT hmX (by omega) (by rw [eN]; exact hn.1) (fun i hi => by rw [eN] at hi; rw [e133, fX T (by omega) (by omega) (by omega)]; exact (hn.2 i hi).1)
      have fJ : ∀ a, a ≠ 152 → a ≠ 153 → a ≠ 154 → J1 a = I a := fun a h1 h2 h3 => by rw [f1 a h1 h3]; exact fX a h1 h2 h3
      have lJ : ∀ i : Nat, (i : Int) < I 126 6 → J1 153 i = I 134 i - ccs I T (I 133 i) := fun i hi => by rw [f1 153 (by omega) (by omega)]; exact lX i hi
      have nJ : ∀ i : Nat, (i : Int) < I 126 6 → J1 154 i = ntN I T (r : Int) (I 133 i) := fun i hi => by
        have hsp := (hn.2 i hi).1
        have hdg := (hm.2 (I 133 i) hsp.1 hsp.2).1
        rw [n1 i (by rw [eN]; exact hi), e133]
        exact ntN_fr (fun a h => fX a (by omega) (by omega) (by omega)) hT (by omega)
      have bJ : ∀ k : Nat, k < 8 → -100 ≤ J1 154 k ∧ J1 154 k ≤ 100 := fun k hk => by
        by_cases hi : (k : Int) < I 126 6
        · rw [nJ k hi]
          have hsp := (hn.2 k hi).1
          have hdg := (hm.2 (I 133 k) hsp.1 hsp.2).1
          have := ntN_le (I := I) (T := T) (r := (r : Int)) (s := I 133 k) (by omega)
          omega
        · rw [o1 k (by rw [eN]; exact hi)]; exact bX k hk
      have eNJ : J1 126 6 = I 126 6 := by rw [fJ 126 (by omega) (by omega) (by omega)]
      have e129 : J1 129 ((r : Int)).toNat = I 129 r := by rw [fJ 129 (by omega) (by omega) (by omega), Int.toNat_natCast]
      have ha := hr.2 r (by omega)
      obtain ⟨J, g1, g2⟩ := ih (r + 1) J1 (by omega) fJ lJ bJ
      refine ⟨J, w_X11_meant_47 (J1 := J1) hl0 (fun _ => c1) (fun _ => ?_) (fun h => absurd h (by omega)), g2⟩
      have inner : ∀ (q a : Nat), a + q = 100 → 1 ≤ a → L_X11_meant_71 d 31 x1 (mnC (mtQ I T) (99 * r + (a - 1))) (mnF (mtQ I T) (99 * r + (a - 1))) (r : Int) (a : Int) J1 S (.inl (some (vI (if x1 ≠ 0 then mnF (mtQ I T) (99 * (I (T + 2) 0).toNat) else mnC (mtQ I T) (99 * (I (T + 2) 0).toNat)))), (J, S)) := by
        intro q
        induction q with
        | zero =>
          intro a hq h1
          rw [show 99 * r + (a - 1) = 99 * (r + 1) by omega]
          exact w_X11_meant_71 hl0 (fun _ => g1) (fun h => absurd h (by omega)) (fun h => absurd h (by omega)) (fun h => absurd h (by omega)) (fun h => absurd h (by omega)) (fun h => absurd h (by omega)) (v2 := fun h => absurd h (by omega)) (v4 := fun h => absurd h (by omega)) (v5 := fun h => absurd h (by omega)) (v6 := fun h => absurd h (by omega)) (v9 := fun h => absurd h (by omega))
        | succ q ihq =>
          intro a hq h1
          have hm9 := m99 r a (by omega)
          obtain ⟨m, hmm⟩ : ∃ m, m = 99 * r + (a - 1) := ⟨_, rfl⟩
          rw [← hmm] at hm9
          have hnx : 99 * r + (a + 1 - 1) = m + 1 := by omega
          have go := ihq (a + 1) (by omega) (by omega)
          rw [hnx, show ((a + 1 : Nat) : Int) = (a : Int) + 1 by omega] at go
          rw [← hmm]
          have hQ : mtQ I T m = (decide ((a : Int) - I 129 r ≠ 0) && mtA I T r ((a : Int) - I 129 r)) := by
            unfold mtQ
            rw [hm9.1, hm9.2]
          have eA : allB (fun k => decide (((a : Int) - J1 129 ((r : Int)).toNat) * J1 154 k = J1 153 k)) (J1 126 6).toNat = mtA I T r ((a : Int) - I 129 r) := by
            unfold mtA
            rw [eNJ, e129]
            refine allB_congr (fun i hi => ?_)
            show decide (((a : Int) - I 129 r) * J1 154 i = J1 153 i) = decide (((a : Int) - I 129 r) * ntN I T (r : Int) (I 133 i) = I 134 i - ccs I T (I 133 i))
            rw [nJ i (by omega), lJ i (by omega)]
          have hz : ((a : Int) - J1 129 ((r : Int)).toNat) = (a : Int) - I 129 r := by rw [e129]
          have hv6 : -100 ≤ ((a : Int) - J1 129 ((r : Int)).toNat) ∧ ((a : Int) - J1 129 ((r : Int)).toNat) ≤ 100 := by rw [e129]; omega
          have yes : (a : Int) - I 129 r ≠ 0 → mtA I T r ((a : Int) - I 129 r) = true → L_X11_meant_71 d 31 x1 (mnC (mtQ I T) m + 1) (if mnC (mtQ I T) m ≠ 0 then (mnF (mtQ I T) m : Int) else (100 * (r : Int)) + (a : Int)) (r : Int) ((a : Int) + 1) J1 S (.inl (some (vI (if x1 ≠ 0 then mnF (mtQ I T) (99 * (I (T + 2) 0).toNat) else mnC (mtQ I T) (99 * (I (T + 2) 0).toNat)))), (J, S)) := by
            intro y1 y2
            have hq1 : mtQ I T m = true := by rw [hQ, decide_eq_true y1, y2]; rfl
            rw [mnC_t hq1, mnF_t hq1] at go
            have e3 : (if mnC (mtQ I T) m ≠ 0 then (mnF (mtQ I T) m : Int) else (100 * (r : Int)) + (a : Int)) = (if fstB (mtQ I T) m ≠ -1 then mnF (mtQ I T) m else 100 * ((m : Int) / 99) + ((m : Int) % 99 + 1)) := by
              have h0 := mnC_0 (mtQ I T) m
              by_cases c : fstB (mtQ I T) m = -1
              · rw [if_neg (fun k => k (h0.mpr c)), if_neg (fun k => k c)]; omega
              · rw [if_pos (fun k => c (h0.mp k)), if_pos c]
            rw [e3]
            exact go
          have hlC := mnC_le (mtQ I T) m
          refine w_X11_meant_71 hl0 (fun h => absurd h (by omega)) (fun _ h3 h4 => yes (by rw [hz] at h3; exact h3) (by rw [eA] at h4; exact h4)) (fun _ h3 => ?_) (fun _ h3 h4 => yes (by rw [hz] at h3; exact h3) (by rw [eA] at h4; exact h4)) (fun _ h3 h4 => ?_) (fun _ h3 h4 => yes (by rw [hz] at h3; exact h3) (by rw [eA] at h4; exact h4)) (v2 := fun _ => by omega) (v4 := fun _ _ => by omega) (v5 := fun _ _ k hk => bJ k (by omega)) (v6 := fun _ _ => hv6)
          · have hq0 : mtQ I T m = false := by rw [hQ, decide_eq_false (by rw [hz] at h3; exact fun c => c h3), Bool.false_and]
            rw [mnC_f hq0, mnF_f hq0] at go
            exact go
          · have hq0 : mtQ I T m = false := by rw [hQ, show mtA I T r ((a : Int) - I 129 r) = false from Bool.eq_false_iff.mpr (by rw [eA] at h4; exact h4), Bool.and_false]
            rw [mnC_f hq0, mnF_f hq0] at go
            exact go
      have := inner 99 1 rfl (Nat.le_refl 1)
      exact this
  obtain ⟨J, g1, g2⟩ := outer (I (T + 2) 0).toNat 0 J0 (by omega) f0' l0 b0
  refine ⟨J, w_X11_meant_0 (r := (.inl (some (vI _)), (J, S))) (J1 := J0) hl0 (fun _ _ => c0) (fun _ _ _ => ?_) (fun h => absurd h (by omega)) (fun _ _ h => absurd h h2) (r3 := fun _ h => absurd h (by omega)) (v1 := fun _ _ h => absurd h h2) (v2 := fun _ _ h => absurd h h2), g2⟩
  rw [if_neg h2]
  exact g1
end
end
