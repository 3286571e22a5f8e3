/-! ===== colours of a ring go on into a piece ===== -/
noncomputable section
/-- a colour goes with the vertices ahead -/
def exP (ed jn : Nat → Nat → Bool) (w : Bool) (v : Nat) (col : Nat → Int) (c : Int) : Bool := allB (fun a => !(ed v a) || (decide (col a = c) == (w && jn v a))) v
/-- the first way to go on -/
def exW (ed jn : Nat → Nat → Bool) (w : Bool) : Nat → Nat → (Nat → Int) → Option (Nat → Int)
  | 0, _, col => some col
  | j + 1, v, col => foS (fun c => if exP ed jn w v col (c : Int) = true then exW ed jn w j (v + 1) (up1 col v (c : Int)) else none) 4 0
def exQ (ed jn : Nat → Nat → Bool) (w : Bool) (j v : Nat) (col : Nat → Int) (c : Nat) : Option (Nat → Int) := if exP ed jn w v col (c : Int) = true then exW ed jn w j (v + 1) (up1 col v (c : Int)) else none
/-- sets of vertices by colours -/
def hav (f col : Nat → Int) (v : Nat) : Prop := v ≤ 15 ∧ ∀ c : Nat, c < 4 → isI (f c) ∧ ∀ i, bt (f c) i = (decide (i < v) && decide (col i = (c : Int)))
theorem hav_ext {f col col' : Nat → Int} {v : Nat} (h : hav f col v) (e : ∀ i, i < v → col i = col' i) : hav f col' v := by
  refine ⟨h.1, fun c hc => ⟨(h.2 c hc).1, fun i => ?_⟩⟩
  rw [(h.2 c hc).2 i]
  by_cases hi : i < v
  · rw [e i hi]
  · rw [decide_eq_false hi, Bool.false_and, Bool.false_and]
theorem hav_put {f col : Nat → Int} {v c : Nat} (h : hav f col v) (hv : v < 15) (hc : c < 4) : hav (up1 f c (p_or (f c) (p_shl 1 (v : Int)))) (up1 col v (c : Int)) (v + 1) := by
  refine ⟨by omega, fun k hk => ?_⟩
  by_cases ek : k = c
  · subst ek
    rw [up1_same]
    refine ⟨isI_or _ _, fun i => ?_⟩
    rw [bt_or, (h.2 k hk).2 i, bt_bit (by omega), Int.toNat_natCast]
    by_cases e : i = v
    · subst e; rw [up1_same, decide_eq_true rfl, decide_eq_true rfl, Bool.or_true, decide_eq_true (show i < i + 1 by omega)]; rfl
    · rw [up1_o _ e, decide_eq_false e, Bool.or_false]
      by_cases q : i < v
      · rw [decide_eq_true q, decide_eq_true (show i < v + 1 by omega)]
      · rw [decide_eq_false q, decide_eq_false (show ¬(i < v + 1) by omega)]
  · rw [up1_o _ ek]
    refine ⟨(h.2 k hk).1, fun i => ?_⟩
    rw [(h.2 k hk).2 i]
    by_cases e : i = v
    · subst e; rw [up1_same, decide_eq_false (show ¬(i < i) by omega), decide_eq_false (show ¬((c : Int) = (k : Int)) by omega), Bool.and_false]; rfl
    · rw [up1_o _ e]
      by_cases q : i < v
      · rw [decide_eq_true q, decide_eq_true (show i < v + 1 by omega)]
      · rw [decide_eq_false q, decide_eq_false (show ¬(i < v + 1) by omega)]
theorem hav_take {f col : Nat → Int} {v c : Nat} (h : hav f col (v + 1)) (hc : c < 4) (hcol : col v = (c : Int)) : hav (up1 f c (p_and (f c) (p_xor (p_shl 1 (v : Int)) (-1)))) col v := by
  have hv := h.1
  refine ⟨by omega, fun k hk => ?_⟩
  by_cases ek : k = c
  · subst ek
    rw [up1_same]
    refine ⟨isI_and _ _, fun i => ?_⟩
    rw [bt_and, (h.2 k hk).2 i]
    by_cases hi : i < v + 1
    · rw [bt_not (by omega), bt_bit (by omega), Int.toNat_natCast]
      by_cases e : i = v
      · subst e; rw [decide_eq_true rfl, Bool.not_true, Bool.and_false, decide_eq_false (show ¬(i < i) by omega), Bool.false_and]
      · rw [decide_eq_false e, Bool.not_false, Bool.and_true, decide_eq_true hi, decide_eq_true (show i < v by omega)]
    · rw [decide_eq_false hi, Bool.false_and, Bool.false_and, decide_eq_false (show ¬(i < v) by omega), Bool.false_and]
  · rw [up1_o _ ek]
    refine ⟨(h.2 k hk).1, fun i => ?_⟩
    rw [(h.2 k hk).2 i]
    by_cases e : i = v
    · subst e; rw [hcol, decide_eq_false (show ¬((c : Int) = (k : Int)) by omega), Bool.and_false, Bool.and_false]
    · by_cases q : i < v
      · rw [decide_eq_true (show i < v + 1 by omega), decide_eq_true q]
      · rw [decide_eq_false (show ¬(i < v + 1) by omega), decide_eq_false q]
theorem bt_below {v i : Nat} (hv : v < 15) (hi : i < 32) : bt (p_shl 1 (v : Int) - 1) i = decide (i < v) := by
  have : ∀ (v : Fin 15) (i : Fin 32), bt (p_shl 1 (v.val : Int) - 1) i.val = decide (i.val < v.val) := by decide
  exact this ⟨v, hv⟩ ⟨i, hi⟩
theorem shl_below {v : Nat} (hv : v < 15) : -2147483648 ≤ p_shl 1 (v : Int) - 1 ∧ p_shl 1 (v : Int) - 1 ≤ 2147483647 := by
  have : ∀ v : Fin 15, -2147483648 ≤ p_shl 1 (v.val : Int) - 1 ∧ p_shl 1 (v.val : Int) - 1 ≤ 2147483647 := by decide
  exact this ⟨v, hv⟩
/-- what the class compares -/
theorem hav_ok {f col : Nat → Int} {v c : Nat} {near joined : Int} {ed jn : Nat → Nat → Bool} {w : Bool} (h : hav f col v) (hv : v < 15) (hc : c < 4) (he : ∀ a, a < v → ed v a = bt near a) (hj : ∀ a, a < v → jn v a = bt joined a) (hje : ∀ a, a < v → jn v a = true → ed v a = true) : p_and (p_and near (p_shl 1 (v : Int) - 1)) (f c) = (if ¬(w = true) then (0 : Int) else p_and joined (p_shl 1 (v : Int) - 1)) ↔ exP ed jn w v col (c : Int) = true := by
  have hL : ∀ i, i < 32 → bt (p_and (p_and near (p_shl 1 (v : Int) - 1)) (f c)) i = (decide (i < v) && (bt near i && decide (col i = (c : Int)))) := fun i hi => by
    rw [bt_and, bt_and, bt_below hv hi, (h.2 c hc).2 i]
    cases decide (i < v) <;> cases bt near i <;> rfl
  have hRi : isI (if ¬(w = true) then (0 : Int) else p_and joined (p_shl 1 (v : Int) - 1)) := by
    split
    · exact ⟨by decide, by decide⟩
    · exact isI_and _ _
  have hR : ∀ i, i < 32 → bt (if ¬(w = true) then (0 : Int) else p_and joined (p_shl 1 (v : Int) - 1)) i = (decide (i < v) && (w && bt joined i)) := fun i hi => by
    cases w with
    | false => rw [if_pos (by decide), bt_zero, Bool.false_and, Bool.and_false]
    | true => rw [if_neg (fun q => q rfl), bt_and, bt_below hv hi, Bool.true_and, Bool.and_comm]
  unfold exP
  rw [allB_iff]
  constructor
  · intro q a ha
    have e := hL a (by omega)
    rw [q, hR a (by omega), decide_eq_true ha, Bool.true_and, Bool.true_and, ← he a ha, ← hj a ha] at e
    rw [e]
    cases h1 : ed v a <;> cases h2 : decide (col a = (c : Int)) <;> rfl
  · intro q
    refine bt_ext (isI_and _ _) hRi (fun i hi => ?_)
    rw [hL i hi, hR i hi]
    by_cases ha : i < v
    · have e := q i ha
      rw [decide_eq_true ha, Bool.true_and, Bool.true_and, ← he i ha, ← hj i ha]
      cases h1 : ed v i with
      | false =>
        have : jn v i = false := by
          cases h3 : jn v i with
          | false => rfl
          | true => rw [hje i ha h3] at h1; cases h1
        rw [this, Bool.and_false]; rfl
      | true =>
        rw [h1] at e
        have e : (decide (col i = (c : Int)) == (w && jn v i)) = true := e
        rw [Bool.true_and]
        exact beq_iff_eq.mp e
    · rw [decide_eq_false ha]; rfl
section
variable {S : PS}
/-- the class's piece, its edges told plainly -/
def cEd (I : Nat → Nat → Int) (a0 V : Nat) (ed jn : Nat → Nat → Bool) : Prop := I a0 4 = (V : Int) ∧ V ≤ 15 ∧ (∀ v a, v < V → a < v → ed v a = bt (I (a0 + 2) v) a) ∧ (∀ v a, v < V → a < v → jn v a = bt (I (a0 + 3) v) a) ∧ ∀ v a, v < V → a < v → jn v a = true → ed v a = true
theorem cEd_of {I J : Nat → Nat → Int} {a0 V : Nat} {ed jn : Nat → Nat → Bool} (h : cEd I a0 V ed jn) (e : ∀ a, a ≠ a0 + 4 → J a = I a) : cEd J a0 V ed jn := by
  unfold cEd
  rw [e a0 (by omega), e (a0 + 2) (by omega), e (a0 + 3) (by omega)]
  exact h
theorem ff_C {a0 V : Nat} {ed jn : Nat → Nat → Bool} {w : Bool} (hl0 : LyX3 S a0) : ∀ (j v d : Nat) (I : Nat → Nat → Int) (col : Nat → Int), v + j = V → j ≤ d → cEd I a0 V ed jn → hav (I (a0 + 4)) col v → ∃ J, Ca (d + 1) mX3_fillFrom [vR (some (14, 0, a0)), vI (v : Int), vI (if w = true then (1 : Int) else 0)] (I, S) (.inl (some (vI (if (exW ed jn w j v col).isSome = true then 1 else 0)))) (J, S) ∧ (∀ a, a ≠ a0 + 4 → J a = I a) ∧ (∀ x, exW ed jn w j v col = some x → hav (J (a0 + 4)) x V) ∧ (exW ed jn w j v col = none → hav (J (a0 + 4)) col v) := by
  intro j
  induction j with
  | zero =>
    intro v d I col hv hd hE hh
    have h4 := hE.1
    have hvV : v = V := by omega
    exact ⟨I, w_X3_fillFrom_0 hl0 (fun h => absurd h (by omega)) (fun _ => rfl), fun _ _ => rfl, fun x hx => by rw [← (Option.some.inj hx : col = x), ← hvV]; exact hh, fun h => by cases h⟩
  | succ j ih =>
    intro v d I col hv hd hE hh
    have h4 := hE.1
    have h15 := hE.2.1
    obtain ⟨e, rfl⟩ : ∃ e, d = e + 1 := ⟨d - 1, by omega⟩
    have hS : exW ed jn w (j + 1) v col = foS (exQ ed jn w j v col) 4 0 := rfl
    obtain ⟨al, hal⟩ : ∃ al : Int, al = (if ¬(w = true) then (0 : Int) else p_and (I (a0 + 3) v) (p_shl 1 (v : Int) - 1)) := ⟨_, rfl⟩
    have loop : ∀ (q c : Nat) (J0 : Nat → Nat → Int), q + c = 4 → (∀ a, a ≠ a0 + 4 → J0 a = I a) → hav (J0 (a0 + 4)) col v → ∃ J, L_X3_fillFrom_49 (e + 1) a0 (v : Int) (if w = true then (1 : Int) else 0) (p_shl 1 (v : Int)) (p_and (I (a0 + 2) v) (p_shl 1 (v : Int) - 1)) al (c : Int) J0 S (if (foS (exQ ed jn w j v col) q c).isSome = true then 1 else 0) (J, S) ∧ (∀ a, a ≠ a0 + 4 → J a = I a) ∧ (∀ x, foS (exQ ed jn w j v col) q c = some x → hav (J (a0 + 4)) x V) ∧ (foS (exQ ed jn w j v col) q c = none → hav (J (a0 + 4)) col v) := by
      intro q
      induction q with
      | zero =>
        intro c J0 hq hf h0
        exact ⟨J0, w_X3_fillFrom_49 (b2 := w = true) (J1 := J0) (z1 := true) hl0 (fun h => absurd h (by omega)) (fun h => absurd h (by omega)) (fun h => absurd h (by omega)) (fun _ => rfl) (r2 := fun h => absurd h (by omega)), hf, fun x (hx : none = some x) => (by cases hx), fun _ => h0⟩
      | succ q ihq =>
        intro c J0 hq hf h0
        have hok := hav_ok (near := I (a0 + 2) v) (joined := I (a0 + 3) v) (ed := ed) (jn := jn) (w := w) h0 (show v < 15 by omega) (show c < 4 by omega) (fun a ha => hE.2.2.1 v a (by omega) ha) (fun a ha => hE.2.2.2.1 v a (by omega) ha) (fun a ha => hE.2.2.2.2 v a (by omega) ha)
        rw [← hal] at hok
        have hfo : foS (exQ ed jn w j v col) (q + 1) c = match exQ ed jn w j v col c with
          | some x => some x
          | none => foS (exQ ed jn w j v col) q (c + 1) := rfl
        by_cases hb : exP ed jn w v col (c : Int) = true
        · have hz := hok.mpr hb
          have hQ : exQ ed jn w j v col c = exW ed jn w j (v + 1) (up1 col v (c : Int)) := by unfold exQ; rw [if_pos hb]
          obtain ⟨J, hcall, ho, hs, hn⟩ := ih (v + 1) e (up1 J0 (a0 + 4) (up1 (J0 (a0 + 4)) c (p_or (J0 (a0 + 4) c) (p_shl 1 (v : Int))))) (up1 col v (c : Int)) (by omega) (by omega) (cEd_of hE (fun a ha => by rw [up1_o _ ha, hf a ha])) (by rw [up1_same]; exact hav_put h0 (by omega) (by omega))
          rw [← up2_up1, ← hQ] at hcall
          rw [← hQ] at hs hn
          have hfJ : ∀ a, a ≠ a0 + 4 → J a = I a := fun a ha => by rw [ho a ha, up1_o _ ha, hf a ha]
          rw [hfo]
          cases hw : exQ ed jn w j v col c with
          | some x =>
            rw [hw] at hcall
            exact ⟨J, w_X3_fillFrom_49 (b2 := w = true) (J1 := J) (z1 := true) hl0 (fun _ h => absurd hz h) (fun _ _ => hcall) (fun _ _ h => absurd rfl h) (fun h => absurd h (by omega)) (r2 := fun _ _ _ => rfl), hfJ, fun y hy => hs y (by rw [hw]; exact hy), fun h => by cases h⟩
          | none =>
            rw [hw] at hcall
            have h1 := hav_take (hn hw) (c := c) (by omega) (up1_same _ _ _)
            obtain ⟨J2, hL, ho2, hs2, hn2⟩ := ihq (c + 1) (up1 J (a0 + 4) (up1 (J (a0 + 4)) c (p_and (J (a0 + 4) c) (p_xor (p_shl 1 (v : Int)) (-1))))) (by omega) (fun a ha => by rw [up1_o _ ha, hfJ a ha]) (by rw [up1_same]; exact hav_ext h1 (fun i hi => up1_o _ (by omega)))
            rw [← up2_up1] at hL
            exact ⟨J2, w_X3_fillFrom_49 (b2 := w = true) (J1 := J) (z1 := false) hl0 (fun _ h => absurd hz h) (fun _ _ => hcall) (fun _ _ _ => hL) (fun h => absurd h (by omega)) (r2 := fun _ _ h => absurd h (by decide)), ho2, hs2, hn2⟩
        · have hQ : exQ ed jn w j v col c = none := by unfold exQ; rw [if_neg hb]
          obtain ⟨J2, hL, ho2, hs2, hn2⟩ := ihq (c + 1) J0 (by omega) hf h0
          rw [hfo, hQ]
          exact ⟨J2, w_X3_fillFrom_49 (b2 := w = true) (J1 := J0) (z1 := false) hl0 (fun _ _ => hL) (fun _ h => absurd (hok.mp h) hb) (fun _ h => absurd (hok.mp h) hb) (fun h => absurd h (by omega)) (r2 := fun _ h => absurd (hok.mp h) hb), ho2, hs2, hn2⟩
    obtain ⟨J, hL, ho, hs, hn⟩ := loop 4 0 I rfl (fun _ _ => rfl) hh
    rw [hS]
    rw [hal] at hL
    have hsb := shl_below (v := v) (by omega)
    exact ⟨J, w_X3_fillFrom_0 (b2 := w = true) hl0 (fun _ => hL) (fun h => absurd h (by omega)), ho, hs, hn⟩
/-! the reference's -/
def mEd (I : Nat → Nat → Int) (p : Int) (V : Nat) (ed jn : Nat → Nat → Bool) : Prop := (0 ≤ p ∧ p < 4) ∧ V ≤ 15 ∧ (0 ≤ I 159 ((20 * p) + 10).toNat ∧ I 159 ((20 * p) + 10).toNat ≤ 4) ∧ (∀ v a : Nat, v < V → a < v → ed v a = bt (I 165 ((15 * p) + (v : Int)).toNat) a) ∧ ∀ v a : Nat, v < V → a < v → jn v a = jnM (I 159) p (a : Int) (v : Int)
theorem mEd_of {I J : Nat → Nat → Int} {p : Int} {V : Nat} {ed jn : Nat → Nat → Bool} (h : mEd I p V ed jn) (e1 : J 159 = I 159) (e2 : J 165 = I 165) : mEd J p V ed jn := by
  unfold mEd
  rw [e1, e2]
  exact h
theorem gw_ok {J : Nat → Nat → Int} {p : Int} {V v : Nat} {ed jn : Nat → Nat → Bool} {w : Bool} {col : Nat → Int} {c : Int} (hE : mEd J p V ed jn) (hv : v < V) (hc : ∀ i, i < v → J 173 i = col i) (hcv : J 173 v = c) : allB (gwP J p (v : Int) (w = true)) (v : Int).toNat = exP ed jn w v col c := by
  rw [Int.toNat_natCast]
  refine allB_congr (fun a ha => ?_)
  unfold gwP
  have h15 := hE.2.1
  rw [Int.toNat_natCast, hc a ha, hcv]
  have t := p_tst_0 (x := J 165 ((15 * p) + (v : Int)).toNat) (s := (a : Int)) (by omega)
  rw [Int.toNat_natCast, ← hE.2.2.2.1 v a hv ha] at t
  have hj := hE.2.2.2.2 v a hv ha
  cases he : ed v a with
  | false => rw [decide_eq_true (Or.inl (t.mpr he))]; rfl
  | true =>
    rw [Bool.not_true, Bool.false_or]
    have hne : ¬(p_and (p_shr (J 165 ((15 * p) + (v : Int)).toNat) (a : Int)) 1 = 0) := fun q => by rw [t.mp q] at he; cases he
    have e2 : (if col a = c then (1 : Int) else 0) = (if (w = true) ∧ (jnM (J 159) p (a : Int) (v : Int) = true) then (1 : Int) else 0) ↔ (decide (col a = c) == (w && jn v a)) = true := by
      rw [← hj]
      by_cases h1 : col a = c
      · rw [if_pos h1, decide_eq_true h1]
        cases w <;> cases jn v a <;> decide
      · rw [if_neg h1, decide_eq_false h1]
        cases w <;> cases jn v a <;> decide
    cases h3 : (decide (col a = c) == (w && jn v a)) with
    | true => exact decide_eq_true (Or.inr (e2.mpr h3))
    | false => exact decide_eq_false (fun q => q.elim hne (fun k => by rw [e2.mp k] at h3; cases h3))
theorem dx_step {I0 : Nat → Nat → Int} {p x2 : Int} {F V : Nat} {ed jn : Nat → Nat → Bool} {w : Bool} {d : Nat} (hl0 : LyX12 S) (hE : mEd I0 p V ed jn) : ∀ (j v : Nat), v + (j + 1) = V → F ≤ v → ∀ (q c : Nat), q + c = 4 → ∀ (J : Nat → Nat → Int) (col : Nat → Int), (∀ a, a ≠ 173 → J a = I0 a) → (∀ i, i < v → J 173 i = col i) → J 173 v = (c : Int) - 1 → (∀ x, foS (exQ ed jn w j v col) q c = some x → ∃ J', (∀ a, a ≠ 173 → J' a = I0 a) ∧ (∀ i, i < V → J' 173 i = x i) ∧ ∀ (r : Int) (h1 : PM), L_X12_doesExtend_57 d 156 p x2 (if w = true then (1 : Int) else 0) (F : Int) (V : Int) (V : Int) J' S r h1 → L_X12_doesExtend_57 d 156 p x2 (if w = true then (1 : Int) else 0) (F : Int) (V : Int) (v : Int) J S r h1) ∧ (foS (exQ ed jn w j v col) q c = none → ∃ J', (∀ a, a ≠ 173 → J' a = I0 a) ∧ (∀ i, i < v → J' 173 i = J 173 i) ∧ ∀ (r : Int) (h1 : PM), L_X12_doesExtend_57 d 156 p x2 (if w = true then (1 : Int) else 0) (F : Int) (V : Int) ((v : Int) - 1) J' S r h1 → L_X12_doesExtend_57 d 156 p x2 (if w = true then (1 : Int) else 0) (F : Int) (V : Int) (v : Int) J S r h1) := by
  intro j
  induction j using Nat.strongRecOn with
  | _ j ihj =>
    intro v hjv hF q
    induction q with
    | zero =>
      intro c hq J col hf hcol hcv
      have hp := hE.1
      have hV := hE.2.1
      have e1 : (up2 J 173 ((v : Int).toNat) (J 173 (v : Int).toNat + 1)) 173 (v : Int).toNat = 4 := by rw [up2_same, Int.toNat_natCast, hcv]; omega
      have hcv2 : J 173 (v : Int).toNat = 3 := by rw [Int.toNat_natCast, hcv]; omega
      refine ⟨fun x (hx : none = some x) => (by cases hx), fun _ => ⟨up2 J 173 ((v : Int).toNat) (J 173 (v : Int).toNat + 1), fun a ha => by funext k; rw [up2_a _ ha, hf a ha], fun i hi => by rw [up2_k _ (by omega)], fun r h1 hk => ?_⟩⟩
      exact w_X12_doesExtend_57 (b3 := w = true) hl0 (fun _ _ h => absurd h (by rw [e1]; decide)) (fun _ _ h => absurd h (by rw [e1]; decide)) (fun _ _ h => absurd h (by rw [e1]; decide)) (fun _ _ _ => hk) (fun h => absurd h (by omega)) (e1 := fun h => absurd h (by omega)) (r2 := fun _ h => absurd h (by omega)) (e2 := fun _ h => absurd h (by omega)) (v5 := fun _ _ h => absurd h (by rw [e1]; decide))
    | succ q ihq =>
      intro c hq J col hf hcol hcv
      have hp := hE.1
      have hV := hE.2.1
      have hcv2 : J 173 (v : Int).toNat = (c : Int) - 1 := by rw [Int.toNat_natCast, hcv]
      obtain ⟨J1, hJ1⟩ : ∃ J1, J1 = up2 J 173 ((v : Int).toNat) (J 173 (v : Int).toNat + 1) := ⟨_, rfl⟩
      have f1 : ∀ a, a ≠ 173 → J1 a = I0 a := fun a ha => by rw [hJ1]; funext k; rw [up2_a _ ha, hf a ha]
      have c1 : ∀ i, i < v → J1 173 i = col i := fun i hi => by rw [hJ1, up2_k _ (by omega)]; exact hcol i hi
      have c1' : ∀ i, i < v → J1 173 i = J 173 i := fun i hi => by rw [hJ1, up2_k _ (by omega)]
      have cv : J1 173 v = (c : Int) := by rw [hJ1, Int.toNat_natCast, up2_same, hcv]; omega
      have cv2 : J1 173 (v : Int).toNat = (c : Int) := by rw [Int.toNat_natCast]; exact cv
      have hE1 : mEd J1 p V ed jn := mEd_of hE (f1 159 (by decide)) (f1 165 (by decide))
      have hgw := gw_ok (w := w) hE1 (show v < V by omega) c1 cv
      have hjc : 0 ≤ J 159 ((20 * p) + 10).toNat ∧ J 159 ((20 * p) + 10).toNat ≤ 4 := by rw [hf 159 (by decide)]; exact hE.2.2.1
      have hfo : foS (exQ ed jn w j v col) (q + 1) c = match exQ ed jn w j v col c with
        | some x => some x
        | none => foS (exQ ed jn w j v col) q (c + 1) := rfl
      by_cases hb : exP ed jn w v col (c : Int) = true
      · have hQ : exQ ed jn w j v col c = exW ed jn w j (v + 1) (up1 col v (c : Int)) := by unfold exQ; rw [if_pos hb]
        by_cases hj0 : j = 0
        · subst hj0
          have hQ2 : exQ ed jn w 0 v col c = some (up1 col v (c : Int)) := hQ
          rw [hfo, hQ2]
          refine ⟨fun x hx => ?_, fun h => by cases h⟩
          have hx : up1 col v (c : Int) = x := Option.some.inj hx
          refine ⟨J1, f1, fun i hi => ?_, fun r h1 hk => ?_⟩
          · rw [← hx]
            by_cases e : i = v
            · rw [e, up1_same]; exact cv
            · rw [up1_o _ e]; exact c1 i (by omega)
          · have hvV : (v : Int) + 1 = (V : Int) := by omega
            refine w_X12_doesExtend_57 (b3 := w = true) hl0 (fun _ _ _ _ _ => ?_) (fun _ _ _ _ h => absurd h (by omega)) (fun _ _ _ h => absurd (by rw [← hJ1, hgw]; exact hb) h) (fun _ _ h => absurd h (by rw [← hJ1, cv2]; omega)) (fun h => absurd h (by omega)) (e1 := fun h => absurd h (by omega)) (r2 := fun _ h => absurd h (by omega)) (e2 := fun _ h => absurd h (by omega))
            rw [← hJ1, hvV]
            exact hk
        · obtain ⟨j', rfl⟩ : ∃ j', j = j' + 1 := ⟨j - 1, by omega⟩
          have hQ2 : exQ ed jn w (j' + 1) v col c = foS (exQ ed jn w j' (v + 1) (up1 col v (c : Int))) 4 0 := hQ
          obtain ⟨J2, hJ2⟩ : ∃ J2, J2 = up2 J1 173 (((v : Int) + 1).toNat) (-1) := ⟨_, rfl⟩
          have ev1 : ((v : Int) + 1).toNat = v + 1 := by omega
          obtain ⟨d1, d2⟩ := ihj j' (by omega) (v + 1) (by omega) (by omega) 4 0 rfl J2 (up1 col v (c : Int)) (fun a ha => by rw [hJ2]; funext k; rw [up2_a _ ha, f1 a ha]) (fun i hi => by
            rw [hJ2, ev1, up2_k _ (by omega)]
            by_cases e : i = v
            · rw [e, up1_same]; exact cv
            · rw [up1_o _ e]; exact c1 i (by omega)) (by rw [hJ2, ev1, up2_same]; rfl)
          have deep : ∀ (r : Int) (h1 : PM), L_X12_doesExtend_57 d 156 p x2 (if w = true then (1 : Int) else 0) (F : Int) (V : Int) ((v + 1 : Nat) : Int) J2 S r h1 → L_X12_doesExtend_57 d 156 p x2 (if w = true then (1 : Int) else 0) (F : Int) (V : Int) (v : Int) J S r h1 := fun r h1 hk => by
            refine w_X12_doesExtend_57 (b3 := w = true) hl0 (fun _ _ _ _ h => absurd h (by omega)) (fun _ _ _ _ _ => ?_) (fun _ _ _ h => absurd (by rw [← hJ1, hgw]; exact hb) h) (fun _ _ h => absurd h (by rw [← hJ1, cv2]; omega)) (fun h => absurd h (by omega)) (e1 := fun h => absurd h (by omega)) (r2 := fun _ h => absurd h (by omega)) (e2 := fun _ h => absurd h (by omega))
            rw [← hJ1, ← hJ2]
            exact hk
          rw [hfo]
          cases hw : exQ ed jn w (j' + 1) v col c with
          | some y =>
            refine ⟨fun x hx => ?_, fun h => by cases h⟩
            obtain ⟨J', g1, g2, g3⟩ := d1 y (by rw [← hQ2, hw])
            have hx : y = x := Option.some.inj hx
            exact ⟨J', g1, by rw [← hx]; exact g2, fun r h1 hk => deep r h1 (g3 r h1 hk)⟩
          | none =>
            obtain ⟨J', g1, g2, g3⟩ := d2 (by rw [← hQ2, hw])
            have g2v : ∀ i, i < v + 1 → J' 173 i = J1 173 i := fun i hi => by rw [g2 i hi, hJ2, ev1, up2_k _ (by omega)]
            obtain ⟨i1, i2⟩ := ihq (c + 1) (by omega) J' col g1 (fun i hi => by rw [g2v i (by omega)]; exact c1 i hi) (by rw [g2v v (by omega), cv]; omega)
            have back : ∀ (r : Int) (h1 : PM), L_X12_doesExtend_57 d 156 p x2 (if w = true then (1 : Int) else 0) (F : Int) (V : Int) (v : Int) J' S r h1 → L_X12_doesExtend_57 d 156 p x2 (if w = true then (1 : Int) else 0) (F : Int) (V : Int) (v : Int) J S r h1 := fun r h1 hk => deep r h1 (g3 r h1 (by rw [show ((v + 1 : Nat) : Int) - 1 = (v : Int) by omega]; exact hk))
            refine ⟨fun x hx => ?_, fun hx => ?_⟩
            · obtain ⟨J3, k1, k2, k3⟩ := i1 x hx
              exact ⟨J3, k1, k2, fun r h1 hk => back r h1 (k3 r h1 hk)⟩
            · obtain ⟨J3, k1, k2, k3⟩ := i2 hx
              exact ⟨J3, k1, fun i hi => by rw [k2 i hi, g2v i (by omega), c1' i hi], fun r h1 hk => back r h1 (k3 r h1 hk)⟩
      · have hQ : exQ ed jn w j v col c = none := by unfold exQ; rw [if_neg hb]
        obtain ⟨i1, i2⟩ := ihq (c + 1) (by omega) J1 col f1 c1 (by rw [cv]; omega)
        have back : ∀ (r : Int) (h1 : PM), L_X12_doesExtend_57 d 156 p x2 (if w = true then (1 : Int) else 0) (F : Int) (V : Int) (v : Int) J1 S r h1 → L_X12_doesExtend_57 d 156 p x2 (if w = true then (1 : Int) else 0) (F : Int) (V : Int) (v : Int) J S r h1 := fun r h1 hk => by
          refine w_X12_doesExtend_57 (b3 := w = true) hl0 (fun _ _ _ h => absurd (by rw [← hJ1, hgw] at h; exact h) hb) (fun _ _ _ h => absurd (by rw [← hJ1, hgw] at h; exact h) hb) (fun _ _ _ _ => ?_) (fun _ _ h => absurd h (by rw [← hJ1, cv2]; omega)) (fun h => absurd h (by omega)) (e1 := fun h => absurd h (by omega)) (r2 := fun _ h => absurd h (by omega)) (e2 := fun _ h => absurd h (by omega))
          rw [← hJ1]
          exact hk
        rw [hfo, hQ]
        refine ⟨fun x hx => ?_, fun hx => ?_⟩
        · obtain ⟨J3, k1, k2, k3⟩ := i1 x hx
          exact ⟨J3, k1, k2, fun r h1 hk => back r h1 (k3 r h1 hk)⟩
        · obtain ⟨J3, k1, k2, k3⟩ := i2 hx
          exact ⟨J3, k1, fun i hi => by rw [k2 i hi, c1' i hi], fun r h1 hk => back r h1 (k3 r h1 hk)⟩
/-- colours of the ring by a code -/
def rcG (r code : Int) : Nat → Int := fun k => cAt r code (k : Int)
theorem dx_M {I : Nat → Nat → Int} {p code : Int} {F V : Nat} {ed jn : Nat → Nat → Bool} {w : Bool} {d : Nat} (hl0 : LyX12 S) (hE : mEd I p V ed jn) (hF : I 159 ((20 * p) + 9).toNat = (F : Int)) (hF7 : 1 ≤ F ∧ F ≤ 7) (hV : ((F : Int) + 1) + I 159 ((20 * p) + 1).toNat = (V : Int)) (hs : 0 ≤ I 159 ((20 * p) + 1).toNat ∧ I 159 ((20 * p) + 1).toNat ≤ 7) : ∃ J, Ca (d + 2) mX12_doesExtend [vR (some (22, 0, 156)), vI p, vI code, vI (if w = true then (1 : Int) else 0)] (I, S) (.inl (some (vI (if (exW ed jn w (V - F) F (rcG (F : Int) code)).isSome = true then 1 else 0)))) (J, S) ∧ (∀ a, a ≠ 173 → J a = I a) ∧ ∀ x, exW ed jn w (V - F) F (rcG (F : Int) code) = some x → ∀ i, i < V → J 173 i = x i := by
  have hp := hE.1
  have hV15 := hE.2.1
  obtain ⟨R, hR⟩ : ∃ R : Int, R = if (exW ed jn w (V - F) F (rcG (F : Int) code)).isSome = true then 1 else 0 := ⟨_, rfl⟩
  rw [← hR]
  have main : ∀ (J : Nat → Nat → Int), (∀ a, a ≠ 173 → J a = I a) → (∀ i, i < F → J 173 i = rcG (F : Int) code i) → J 173 F = -1 → ∃ J', L_X12_doesExtend_57 d 156 p code (if w = true then (1 : Int) else 0) (F : Int) (V : Int) (F : Int) J S R (J', S) ∧ (∀ a, a ≠ 173 → J' a = I a) ∧ ∀ x, exW ed jn w (V - F) F (rcG (F : Int) code) = some x → ∀ i, i < V → J' 173 i = x i := by
    intro J hf hc hm
    obtain ⟨j, hj⟩ : ∃ j, V - F = j + 1 := ⟨V - F - 1, by omega⟩
    have hS : exW ed jn w (V - F) F (rcG (F : Int) code) = foS (exQ ed jn w j F (rcG (F : Int) code)) 4 0 := by rw [hj]; rfl
    obtain ⟨d1, d2⟩ := dx_step (d := d) (x2 := code) (F := F) (w := w) hl0 hE j F (by omega) (Nat.le_refl F) 4 0 rfl J (rcG (F : Int) code) hf hc hm
    rw [hS] at hR ⊢
    cases hw : foS (exQ ed jn w j F (rcG (F : Int) code)) 4 0 with
    | some x =>
      obtain ⟨J', g1, g2, g3⟩ := d1 x hw
      rw [hw] at hR
      refine ⟨J', g3 _ _ (w_X12_doesExtend_57 (b3 := w = true) hl0 (fun _ h => absurd h (by omega)) (fun _ h => absurd h (by omega)) (fun _ h => absurd h (by omega)) (fun _ h => absurd h (by omega)) (fun h => absurd h (by omega)) (e1 := fun h => absurd h (by omega)) (r2 := fun _ _ => by rw [hR, if_pos rfl]; rfl) (e2 := fun _ _ => rfl) (v5 := fun _ h => absurd h (by omega)) (v2 := fun _ h => absurd h (by omega)) (v6 := fun _ h => absurd h (by omega)) (v8 := fun _ h => absurd h (by omega))), g1, fun y hy => ?_⟩
      rw [← (Option.some.inj hy : x = y)]
      exact g2
    | none =>
      obtain ⟨J', g1, g2, g3⟩ := d2 hw
      rw [hw] at hR
      exact ⟨J', g3 _ _ (w_X12_doesExtend_57 (b3 := w = true) hl0 (fun h => absurd h (by omega)) (fun h => absurd h (by omega)) (fun h => absurd h (by omega)) (fun h => absurd h (by omega)) (fun _ => by rw [hR, if_neg (show ¬((F : Int) - 1 = (V : Int)) by omega)]; rfl) (e1 := fun _ => rfl) (r2 := fun h => absurd h (by omega)) (e2 := fun h => absurd h (by omega)) (v5 := fun h => absurd h (by omega)) (v2 := fun h => absurd h (by omega)) (v6 := fun h => absurd h (by omega)) (v8 := fun h => absurd h (by omega))), g1, fun y hy => by cases hy⟩
  have lay : ∀ (t k : Nat) (J : Nat → Nat → Int), k + t = F → (∀ a, a ≠ 173 → J a = I a) → (∀ i, i < k → J 173 i = rcG (F : Int) code i) → ∃ J', L_X12_doesExtend_17 d 156 p code (if w = true then (1 : Int) else 0) (F : Int) (V : Int) (k : Int) J S R (J', S) ∧ (∀ a, a ≠ 173 → J' a = I a) ∧ ∀ x, exW ed jn w (V - F) F (rcG (F : Int) code) = some x → ∀ i, i < V → J' 173 i = x i := by
    intro t
    induction t with
    | zero =>
      intro k J hk hf hc
      have hFJ : J 159 ((20 * p) + 9).toNat = (F : Int) := by rw [hf 159 (by decide)]; exact hF
      obtain ⟨J', hL, rest⟩ := main (up2 J 173 ((F : Int).toNat) (-1)) (fun a ha => by funext j; rw [up2_a _ ha, hf a ha]) (fun i hi => by rw [up2_k _ (by omega)]; exact hc i (by omega)) (by rw [Int.toNat_natCast, up2_same])
      exact ⟨J', w_X12_doesExtend_17 (b3 := w = true) hl0 (fun _ => hL) (fun h => absurd h (by omega)), rest⟩
    | succ t iht =>
      intro k J hk hf hc
      have hFJ : J 159 ((20 * p) + 9).toNat = (F : Int) := by rw [hf 159 (by decide)]; exact hF
      obtain ⟨J', hL, rest⟩ := iht (k + 1) (up2 J 173 ((k : Int).toNat) (p_and (p_shr code (2 * (((J 159 ((20 * p) + 9).toNat) - 1) - (k : Int)))) 3)) (by omega) (fun a ha => by funext j; rw [up2_a _ ha, hf a ha]) (fun i hi => by
        rw [Int.toNat_natCast, hFJ]
        by_cases e : i = k
        · rw [e, up2_same]; rfl
        · rw [up2_k _ (by omega)]; exact hc i (by omega))
      exact ⟨J', w_X12_doesExtend_17 (b3 := w = true) hl0 (fun h => absurd h (by omega)) (fun _ => hL), rest⟩
  obtain ⟨J', hL, rest⟩ := lay F 0 I (by omega) (fun _ _ => rfl) (fun i hi => absurd hi (by omega))
  refine ⟨J', w_X12_doesExtend_0 (b3 := w = true) hl0 ?_, rest⟩
  rw [hF, hV]
  exact hL
end
end
