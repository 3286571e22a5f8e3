/-! ===== plans told plainly; the class's deeds on sheets ===== -/
noncomputable section
/-- the topmost row, how many sheets lie, what lies under each, their numbers, how many were laid ever, the last taken off, the most -/
abbrev PT : Type := (Nat → Int) × Nat × (Nat → Nat → Int) × (Nat → Int) × Int × Int × Int
def plF (adj : Nat → Nat → Bool) (m : Nat) (w s c : Int) (x : PT) : Option PT :=
  if w = 11 then (if x.2.1 = 8 then none else some (x.1, x.2.1 + 1, up1 x.2.2.1 x.2.1 x.1, up1 x.2.2.2.1 x.2.1 x.2.2.2.2.1, x.2.2.2.2.1 + 1, x.2.2.2.2.2.1, max x.2.2.2.2.2.2 ((x.2.1 : Int) + 1)))
  else if w = 12 then (if x.2.1 ≤ 1 then none else some (x.2.2.1 (x.2.1 - 1), x.2.1 - 1, x.2.2.1, x.2.2.2.1, x.2.2.2.2.1, x.2.2.2.1 (x.2.1 - 1), x.2.2.2.2.2.2))
  else (if (ddS adj m x.1 (w - 8) s c).isSome = true then some ((ddS adj m x.1 (w - 8) s c).getD x.1, x.2) else none)
def nbO (t : Nat → Int) (n p : Nat) : Bool := decide (tkK t n p = 2) && decide ((tkE t n p : Int) - tkS t n p ≤ 4)
/-- behind the word: where it breaks off, or -1; the place of the last token; both numbers -/
def plB (t : Nat → Int) (n p : Nat) (w : Int) : Int :=
  if w = 8 ∨ w = 10 then (if nbO t n p = true then (if nbO t n (tkE t n p) = true then (if tkK t n (tkE t n (tkE t n p)) = 3 then -1 else (tkS t n (tkE t n (tkE t n p)) : Int)) else (tkS t n (tkE t n p) : Int)) else (tkS t n p : Int))
  else if w = 9 then (if nbO t n p = true then (if tkK t n (tkE t n p) = 3 then -1 else (tkS t n (tkE t n p) : Int)) else (tkS t n p : Int))
  else (if tkK t n p = 3 then -1 else (tkS t n p : Int))
def plQ (t : Nat → Int) (n p : Nat) (w : Int) : Nat := if w = 8 ∨ w = 10 then tkE t n (tkE t n p) else if w = 9 then tkE t n p else p
def plU (t : Nat → Int) (n p : Nat) (w : Int) : Int := if w = 8 ∨ w = 10 ∨ w = 9 then gsV t n p else 0
def plV (t : Nat → Int) (n p : Nat) (w : Int) : Int := if w = 8 ∨ w = 10 then gsV t n (tkE t n p) else 0
/-- a step: where it breaks off, or what comes of it -/
def plN (t : Nat → Int) (n : Nat) (adj : Nat → Nat → Bool) (m p : Nat) (x : PT) : Int ⊕ (Nat × PT) :=
  if wdK t n p < 8 then .inl (tkS t n p : Int)
  else if plB t n (tkE t n p) (wdK t n p) ≠ -1 then .inl (plB t n (tkE t n p) (wdK t n p))
  else match plF adj m (wdK t n p) (plU t n (tkE t n p) (wdK t n p)) (plV t n (tkE t n p) (wdK t n p)) x with
    | none => .inl (tkS t n p : Int)
    | some x' => .inr (tkE t n (plQ t n (tkE t n p) (wdK t n p)), x')
def plR (t : Nat → Int) (n : Nat) (adj : Nat → Nat → Bool) (m : Nat) : Nat → Nat → PT → Int → Int × PT × Int
  | 0, _, x, st => (-1, x, st)
  | f + 1, p, x, st => if tkK t n p = 0 then (-1, x, st) else match plN t n adj m p x with
    | .inl b => (b, x, st)
    | .inr (p', x') => plR t n adj m f p' x' (st + 1)
/-- sheets are taken off one by one -/
def plO (no : Nat → Int) : Nat → Int → Int
  | 0, v => v
  | j + 1, v => plO no j (10 * v + no j % 10)
/-- rows are rows of colours, at least one sheet lies, numbers are small -/
def ptO (m : Nat) (x : PT) : Prop := rOk x.1 m ∧ (1 ≤ x.2.1 ∧ x.2.1 ≤ 8) ∧ (∀ j, j < x.2.1 → rOk (x.2.2.1 j) m) ∧ (∀ j, j < x.2.1 → 0 ≤ x.2.2.2.1 j ∧ x.2.2.2.1 j < x.2.2.2.2.1) ∧ (0 ≤ x.2.2.2.2.2.2 ∧ x.2.2.2.2.2.2 ≤ 8)
theorem plF_ok {adj : Nat → Nat → Bool} {m : Nat} {w s c : Int} {x x' : PT} (h : ptO m x) (e : plF adj m w s c x = some x') : ptO m x' ∧ x.2.2.2.2.1 ≤ x'.2.2.2.2.1 ∧ x'.2.2.2.2.1 ≤ x.2.2.2.2.1 + 1 := by
  obtain ⟨h1, h2, h3, h4, h5⟩ := h
  unfold plF at e
  by_cases w1 : w = 11
  · rw [if_pos w1] at e
    by_cases w2 : x.2.1 = 8
    · rw [if_pos w2] at e; cases e
    · rw [if_neg w2] at e
      cases e
      refine ⟨⟨h1, ⟨by show 1 ≤ x.2.1 + 1; omega, by show x.2.1 + 1 ≤ 8; omega⟩, fun j hj => ?_, fun j hj => ?_, ?_⟩, ?_⟩
      · have hj : j < x.2.1 + 1 := hj
        show rOk (up1 x.2.2.1 x.2.1 x.1 j) m
        by_cases q : j = x.2.1
        · rw [q, up1_same]; exact h1
        · rw [up1_o _ q]; exact h3 j (by omega)
      · have hj : j < x.2.1 + 1 := hj
        show 0 ≤ up1 x.2.2.2.1 x.2.1 x.2.2.2.2.1 j ∧ up1 x.2.2.2.1 x.2.1 x.2.2.2.2.1 j < x.2.2.2.2.1 + 1
        have h40 := h4 0 (by omega)
        by_cases q : j = x.2.1
        · rw [q, up1_same]; omega
        · rw [up1_o _ q]; have := h4 j (by omega); omega
      · show 0 ≤ max x.2.2.2.2.2.2 ((x.2.1 : Int) + 1) ∧ max x.2.2.2.2.2.2 ((x.2.1 : Int) + 1) ≤ 8
        omega
      · show x.2.2.2.2.1 ≤ x.2.2.2.2.1 + 1 ∧ x.2.2.2.2.1 + 1 ≤ x.2.2.2.2.1 + 1
        omega
  · rw [if_neg w1] at e
    by_cases w2 : w = 12
    · rw [if_pos w2] at e
      by_cases w3 : x.2.1 ≤ 1
      · rw [if_pos w3] at e; cases e
      · rw [if_neg w3] at e
        cases e
        refine ⟨⟨h3 _ (by omega), ⟨by show 1 ≤ x.2.1 - 1; omega, by show x.2.1 - 1 ≤ 8; omega⟩, fun j hj => h3 j ?_, fun j hj => h4 j ?_, h5⟩, ?_⟩
        · have hj : j < x.2.1 - 1 := hj
          omega
        · have hj : j < x.2.1 - 1 := hj
          omega
        · show x.2.2.2.2.1 ≤ x.2.2.2.2.1 ∧ x.2.2.2.2.1 ≤ x.2.2.2.2.1 + 1
          omega
    · rw [if_neg w2] at e
      by_cases w3 : (ddS adj m x.1 (w - 8) s c).isSome = true
      · rw [if_pos w3] at e
        cases e
        exact ⟨⟨dd_ok h1, h2, h3, h4, h5⟩, by show x.2.2.2.2.1 ≤ x.2.2.2.2.1 ∧ x.2.2.2.2.1 ≤ x.2.2.2.2.1 + 1; omega⟩
      · rw [if_neg w3] at e; cases e
/-- the class's sheets -/
def clR (J : Nat → Nat → Int) (m : Nat) (x : PT) : Prop := pnt (J 149) x.1 m ∧ J 147 3 = (x.2.1 : Int) ∧ (∀ j, j < x.2.1 → pnt (fun c => J 150 (4 * j + c)) (x.2.2.1 j) m) ∧ (∀ j, j < x.2.1 → J 151 j = x.2.2.2.1 j) ∧ J 147 4 = x.2.2.2.2.1 ∧ J 147 5 = x.2.2.2.2.2.1 ∧ J 147 10 = x.2.2.2.2.2.2
theorem pnt_4 {f f' g : Nat → Int} {n : Nat} (h : pnt f g n) (e : ∀ c, c < 4 → f' c = f c) : pnt f' g n := ⟨h.1, fun c hc => by rw [e c hc]; exact h.2 c hc⟩
section
variable {d : Nat} {I : Nat → Nat → Int} {S : PS} {T m : Nat} {adj : Nat → Nat → Bool}
def plW (a : Nat) : Prop := a = 147 ∨ a = 149 ∨ a = 150 ∨ a = 151
theorem pf_C {w s c : Int} {x : PT} (hl0 : LyX4 S) (hl1 : LyX0 S T) (hA : cAd I T m adj) (hx : clR I m x) (ho : ptO m x) (hw : 8 ≤ w ∧ w ≤ 12) (hev : 0 ≤ x.2.2.2.2.1 ∧ x.2.2.2.2.1 ≤ 1000000) : ∃ J, Ca (d + 3) mX4_perform [vR (some (15, 0, 147)), vR (some (11, 0, T)), vI (w - 8), vI s, vI c] (I, S) (.inl (some (vI (if (plF adj m w s c x).isSome = true then 1 else 0)))) (J, S) ∧ (∀ a, ¬plW a → J a = I a) ∧ (∀ k, k ≠ 3 → k ≠ 4 → k ≠ 5 → k ≠ 10 → J 147 k = I 147 k) ∧ clR J m ((plF adj m w s c x).getD x) := by
  obtain ⟨g, ly, rw', no, ev, la, mo⟩ := x
  obtain ⟨c1, c2, c3, c4, c5, c6, c7⟩ := hx
  obtain ⟨o1, o2, o3, o4, o5⟩ := ho
  dsimp only at *
  by_cases w11 : w = 11
  · subst w11
    have e3 : (11 : Int) - 8 = 3 := rfl
    rw [e3]
    by_cases h8 : ly = 8
    · have hF : plF adj m 11 s c (g, ly, rw', no, ev, la, mo) = none := by unfold plF; rw [if_pos rfl, if_pos h8]
      rw [hF]
      exact ⟨I, w_X4_perform_0 (z1 := true) (J1 := I) hl0 hl1 (fun q => absurd rfl q), fun _ _ => rfl, fun _ _ _ _ _ => rfl, c1, c2, c3, c4, c5, c6, c7⟩
    · have hF : plF adj m 11 s c (g, ly, rw', no, ev, la, mo) = some (g, ly + 1, up1 rw' ly g, up1 no ly ev, ev + 1, la, max mo ((ly : Int) + 1)) := by unfold plF; rw [if_pos rfl, if_neg h8]
      rw [hF]
      have e4 : ((I 147 3) * 4).toNat = 4 * ly := by omega
      have e5 : (I 147 3).toNat = ly := by omega
      refine ⟨up2 (up2 (up2 (up2 (cpyI I 149 0 150 (4 * ly) 4) 151 ly ev) 147 4 (ev + 1)) 147 3 ((ly : Int) + 1)) 147 10 (max mo ((ly : Int) + 1)), w_X4_perform_0 (z1 := true) (J1 := I) hl0 hl1 (fun q => absurd rfl q) (e4 := fun _ _ => by rw [e4, e5, c2, c5, c7, p_max_eq (by omega) (by omega)]), fun a ha => ?_, fun k h3 h4 h5 h10 => ?_, ?_⟩
      · unfold plW at ha
        funext j
        rw [up2_a _ (by omega), up2_a _ (by omega), up2_a _ (by omega), up2_a _ (by omega)]
        unfold cpyI
        rw [up1_o _ (by omega)]
      · rw [up2_k _ h10, up2_k _ h3, up2_k _ h4]
        rfl
      · have e149 : (up2 (up2 (up2 (up2 (cpyI I 149 0 150 (4 * ly) 4) 151 ly ev) 147 4 (ev + 1)) 147 3 ((ly : Int) + 1)) 147 10 (max mo ((ly : Int) + 1))) 149 = I 149 := rfl
        have e150 : ∀ k, (up2 (up2 (up2 (up2 (cpyI I 149 0 150 (4 * ly) 4) 151 ly ev) 147 4 (ev + 1)) 147 3 ((ly : Int) + 1)) 147 10 (max mo ((ly : Int) + 1))) 150 k = if 4 * ly ≤ k ∧ k < 4 * ly + 4 then I 149 (0 + (k - 4 * ly)) else I 150 k := fun k => rfl
        refine ⟨by rw [e149]; exact c1, rfl, fun j hj => ?_, fun j hj => ?_, rfl, c6, rfl⟩
        · have hj : j < ly + 1 := hj
          show pnt _ (up1 rw' ly g j) m
          by_cases q : j = ly
          · rw [q, up1_same]
            exact pnt_4 c1 (fun k hk => by rw [e150, if_pos (by omega)]; congr 1; omega)
          · rw [up1_o _ q]
            exact pnt_4 (c3 j (by omega)) (fun k hk => by rw [e150, if_neg (by omega)])
        · have hj : j < ly + 1 := hj
          rw [up2_a _ (by decide), up2_a _ (by decide), up2_a _ (by decide)]
          show up2 _ 151 ly ev 151 j = up1 no ly ev j
          by_cases q : j = ly
          · rw [q, up2_same, up1_same]
          · rw [up2_k _ q, up1_o _ q]
            exact c4 j (by omega)
  by_cases w12 : w = 12
  · subst w12
    have e3 : (12 : Int) - 8 = 4 := rfl
    rw [e3]
    by_cases h8 : ly ≤ 1
    · have hF : plF adj m 12 s c (g, ly, rw', no, ev, la, mo) = none := by unfold plF; rw [if_neg (by decide), if_pos rfl, if_pos h8]
      rw [hF]
      exact ⟨I, w_X4_perform_0 (z1 := true) (J1 := I) hl0 hl1 (fun _ q => absurd rfl q), fun _ _ => rfl, fun _ _ _ _ _ => rfl, c1, c2, c3, c4, c5, c6, c7⟩
    · have hF : plF adj m 12 s c (g, ly, rw', no, ev, la, mo) = some (rw' (ly - 1), ly - 1, rw', no, ev, no (ly - 1), mo) := by unfold plF; rw [if_neg (by decide), if_pos rfl, if_neg h8]
      rw [hF]
      have e4 : ((I 147 3 - 1) * 4).toNat = 4 * (ly - 1) := by omega
      have e5 : (I 147 3 - 1).toNat = ly - 1 := by omega
      have e6 : I 147 3 - 1 = ((ly - 1 : Nat) : Int) := by omega
      refine ⟨up2 (cpyI (up2 I 147 3 ((ly - 1 : Nat) : Int)) 150 (4 * (ly - 1)) 149 0 4) 147 5 (no (ly - 1)), w_X4_perform_0 (z1 := true) (J1 := I) hl0 hl1 (fun _ q => absurd rfl q) (e2 := fun _ _ _ => by rw [if_pos (by omega), e4, e5, e6, c4 (ly - 1) (by omega)]), fun a ha => ?_, fun k h3 h4 h5 h10 => ?_, ?_⟩
      · unfold plW at ha
        funext j
        rw [up2_a _ (by omega)]
        unfold cpyI
        rw [up1_o _ (by omega)]
        exact up2_a _ (by omega)
      · rw [up2_k _ h5]
        show up2 I 147 3 ((ly - 1 : Nat) : Int) 147 k = _
        rw [up2_k _ h3]
      · refine ⟨pnt_4 (c3 (ly - 1) (by omega)) (fun k hk => ?_), rfl, fun j hj => ?_, fun j hj => ?_, c5, up2_same _ _ _ _, c7⟩
        · show (if 0 ≤ k ∧ k < 0 + 4 then I 150 (4 * (ly - 1) + (k - 0)) else I 149 k) = _
          rw [if_pos (by omega)]
          rfl
        · have hj : j < ly - 1 := hj
          exact c3 j (by omega)
        · have hj : j < ly - 1 := hj
          exact c4 j (by omega)
  · have hF : plF adj m w s c (g, ly, rw', no, ev, la, mo) = if (ddS adj m g (w - 8) s c).isSome = true then some ((ddS adj m g (w - 8) s c).getD g, (ly, rw', no, ev, la, mo)) else none := by unfold plF; rw [if_neg w11, if_neg w12]
    obtain ⟨F, a1, a2⟩ := at_C (d := d) (I := I) (S := S) (a0 := 148) (T := T) (how := w - 8) (s := s) (c := c) (ly_X4_p hl0) hl1 hA c1
    have hS : (plF adj m w s c (g, ly, rw', no, ev, la, mo)).isSome = (ddS adj m g (w - 8) s c).isSome := by
      rw [hF]
      cases (ddS adj m g (w - 8) s c).isSome <;> rfl
    rw [hS]
    refine ⟨up1 I 149 F, w_X4_perform_0 (z1 := (ddS adj m g (w - 8) s c).isSome) (J1 := up1 I 149 F) hl0 hl1 (fun _ _ => a1) (r1 := fun _ _ => rfl) (e1 := fun _ _ => rfl), fun a ha => up1_o I (by unfold plW at ha; omega), fun k _ _ _ _ => rfl, ?_⟩
    rw [hF]
    have e149 : (up1 I 149 F) 149 = F := up1_same _ _ _
    cases hd : ddS adj m g (w - 8) s c with
    | none =>
      rw [hd] at a2
      exact ⟨by rw [e149]; exact a2, c2, c3, c4, c5, c6, c7⟩
    | some g' =>
      rw [hd] at a2
      exact ⟨by rw [e149]; exact a2, c2, c3, c4, c5, c6, c7⟩
end
end
