/-! ===== a plan, the class's ===== -/
noncomputable section
theorem tk_pos (t : Nat → Int) {n p : Nat} (h : tkK t n p ≠ 0) : tkS t n p < tkE t n p := by
  have hlt : tkS t n p < n := by
    by_cases w : tkS t n p < n
    · exact w
    · refine absurd ?_ h
      unfold tkK kdA
      rw [if_neg (by omega)]
  unfold tkE
  by_cases c : tkK t n p = 1 ∨ tkK t n p = 2
  · rw [if_pos c]
    obtain ⟨j, hj⟩ : ∃ j, n - tkS t n p = j + 1 := ⟨n - tkS t n p - 1, by omega⟩
    rw [hj]
    have hq : kdP t n (tkK t n p) (tkS t n p) = true := decide_eq_true rfl
    have u : runL (kdP t n (tkK t n p)) (j + 1) (tkS t n p) = if kdP t n (tkK t n p) (tkS t n p) = true then runL (kdP t n (tkK t n p)) j (tkS t n p + 1) else tkS t n p := rfl
    rw [u, if_pos hq]
    have := runL_le (kdP t n (tkK t n p)) j (tkS t n p + 1)
    omega
  · rw [if_neg c, if_neg h]
    omega
theorem wdK_word {t : Nat → Int} {n p : Nat} (h : 0 ≤ wdK t n p) : tkK t n p = 1 := by
  unfold wdK at h
  by_cases c : tkK t n p = 1
  · exact c
  · rw [if_neg c] at h; exact absurd h (by decide)
theorem plN_pos {t : Nat → Int} {n : Nat} {adj : Nat → Nat → Bool} {m p p' : Nat} {x x' : PT} (hp : p ≤ n) (h : plN t n adj m p x = .inr (p', x')) : p < p' ∧ p' ≤ n ∧ ∃ w s c, plF adj m w s c x = some x' := by
  unfold plN at h
  by_cases w8 : wdK t n p < 8
  · rw [if_pos w8] at h; cases h
  · rw [if_neg w8] at h
    by_cases hb : plB t n (tkE t n p) (wdK t n p) ≠ -1
    · rw [if_pos hb] at h; cases h
    · rw [if_neg hb] at h
      have k1 := wdK_word (show 0 ≤ wdK t n p by omega)
      have hin := tk_in t hp
      have hpos := tk_pos t (n := n) (p := p) (by rw [k1]; decide)
      have h2 := tk_in t (n := n) (p := tkE t n p) (by omega)
      have h3 := tk_in t (n := n) (p := tkE t n (tkE t n p)) (by omega)
      have hQ : tkE t n p ≤ plQ t n (tkE t n p) (wdK t n p) ∧ plQ t n (tkE t n p) (wdK t n p) ≤ n := by
        unfold plQ
        split
        · omega
        · split <;> omega
      have h4 := tk_in t (n := n) (p := plQ t n (tkE t n p) (wdK t n p)) hQ.2
      cases hF : plF adj m (wdK t n p) (plU t n (tkE t n p) (wdK t n p)) (plV t n (tkE t n p) (wdK t n p)) x with
      | none => rw [hF] at h; cases h
      | some x1 =>
        rw [hF] at h
        cases h
        exact ⟨by omega, by omega, _, _, _, hF⟩
theorem plN_bge {t : Nat → Int} {n : Nat} {adj : Nat → Nat → Bool} {m p : Nat} {x : PT} {b : Int} (h : plN t n adj m p x = .inl b) : b ≠ -1 := by
  unfold plN at h
  by_cases w8 : wdK t n p < 8
  · rw [if_pos w8] at h; cases h; omega
  · rw [if_neg w8] at h
    by_cases hb : plB t n (tkE t n p) (wdK t n p) ≠ -1
    · rw [if_pos hb] at h; cases h; exact hb
    · rw [if_neg hb] at h
      cases hF : plF adj m (wdK t n p) (plU t n (tkE t n p) (wdK t n p)) (plV t n (tkE t n p) (wdK t n p)) x with
      | none => rw [hF] at h; cases h; omega
      | some x1 => rw [hF] at h; cases h
section
variable {d : Nat} {I : Nat → Nat → Int} {S : PS} {T m n : Nat} {adj : Nat → Nat → Bool} {t : Nat → Int}
theorem tf_C {no : Nat → Int} {ly : Nat} (hl0 : LyX4 S) (h3 : I 147 3 = (ly : Int)) (h8 : 1 ≤ ly ∧ ly ≤ 8) (hno : ∀ j, j < ly → I 151 j = no j ∧ 0 ≤ no j ∧ no j ≤ 2000000) : ∃ J, Ca (d + 1) mX4_takeAllOff [vR (some (15, 0, 147))] (I, S) (.inl none) (J, S) ∧ (∀ a, a ≠ 147 → a ≠ 149 → J a = I a) ∧ J 147 3 = 0 ∧ J 147 11 = plO no ly 0 ∧ J 147 5 = no 0 ∧ ∀ k, k ≠ 3 → k ≠ 5 → k ≠ 11 → J 147 k = I 147 k := by
  have lp : ∀ (j i : Nat) (X : Nat → Nat → Int) (v : Int), j ≤ ly → i + j ≤ 8 → (∀ a, a ≠ 147 → a ≠ 149 → X a = I a) → X 147 3 = (j : Int) → X 147 11 = v → (0 ≤ v ∧ v < 10 ^ i) → (∀ k, k ≠ 3 → k ≠ 5 → k ≠ 11 → X 147 k = I 147 k) → (j = 0 → X 147 5 = no 0) → ∃ J, L_X4_takeAllOff_7 d 147 (i : Int) X S (J, S) ∧ (∀ a, a ≠ 147 → a ≠ 149 → J a = I a) ∧ J 147 3 = 0 ∧ J 147 11 = plO no j v ∧ J 147 5 = no 0 ∧ ∀ k, k ≠ 3 → k ≠ 5 → k ≠ 11 → J 147 k = I 147 k := by
    intro j
    induction j with
    | zero =>
      intro i X v _ hi hX x3 x11 hv hk h5
      refine ⟨X, w_X4_takeAllOff_7 hl0 (fun _ q => absurd q (by omega)) (e1 := fun _ => rfl) (e2 := fun _ _ => rfl) (v3 := fun _ q => absurd q (by omega)) (v4 := fun _ q => absurd q (by omega)) (v5 := fun _ q => absurd q (by omega)) (v6 := fun _ q => absurd q (by omega)) (v7 := fun _ q => absurd q (by omega)) (v8 := fun _ q => absurd q (by omega)), hX, x3, x11, h5 rfl, hk⟩
    | succ j ih =>
      intro i X v hj hi hX x3 x11 hv hk h5
      have e4 : (X 147 3 - 1).toNat = j := by omega
      have e5 : X 151 (X 147 3 - 1).toNat = no j := by rw [e4, hX 151 (by decide) (by decide)]; exact (hno j (by omega)).1
      have hnj := hno j (by omega)
      obtain ⟨Y, hY⟩ : ∃ Y, Y = up2 (cpyI (up2 X 147 3 (X 147 3 - 1)) 150 (((X 147 3 - 1) * 4).toNat) 149 0 4) 147 5 (X 151 (X 147 3 - 1).toNat) := ⟨_, rfl⟩
      have y11 : Y 147 11 = v := by rw [hY]; exact x11
      have y5 : Y 147 5 = no j := by rw [hY, up2_same]; exact e5
      have yif : (if 1 ≤ X 147 3 then (up2 (cpyI (up2 X 147 3 (X 147 3 - 1)) 150 (((X 147 3 - 1) * 4).toNat) 149 0 4) 147 5 (X 151 (X 147 3 - 1).toNat)) else X) = Y := by rw [hY, if_pos (by omega)]
      have ya : ∀ a, a ≠ 147 → a ≠ 149 → Y a = I a := fun a h1 h2 => by
        rw [hY, ← hX a h1 h2]
        funext k
        rw [up2_a _ h1]
        unfold cpyI
        rw [up1_o _ h2, up2_a _ h1]
      have yk : ∀ k, k ≠ 3 → k ≠ 5 → Y 147 k = X 147 k := fun k h1 h2 => by
        rw [hY, up2_k _ h2]
        show up2 X 147 3 (X 147 3 - 1) 147 k = _
        rw [up2_k _ h1]
      have y3 : Y 147 3 = (j : Int) := by
        rw [hY]
        show X 147 3 - 1 = (j : Int)
        omega
      have hp10 : (10 : Int) ^ (i + 1) = 10 ^ i * 10 := Int.pow_succ 10 i
      have hpb : (10 : Int) ^ i ≤ 10000000 := by
        have : i = 0 ∨ i = 1 ∨ i = 2 ∨ i = 3 ∨ i = 4 ∨ i = 5 ∨ i = 6 ∨ i = 7 := by omega
        rcases this with rfl | rfl | rfl | rfl | rfl | rfl | rfl | rfl <;> decide
      have hv2 : 0 ≤ v ∧ v < 10000000 := ⟨hv.1, Int.lt_of_lt_of_le hv.2 hpb⟩
      have hv3 : 10 * v + no j % 10 < 10 ^ (i + 1) := by
        rw [hp10]
        generalize (10 : Int) ^ i = P at *
        omega
      obtain ⟨J, q1, q2⟩ := ih (i + 1) (up2 Y 147 11 (10 * v + no j % 10)) (10 * v + no j % 10) (by omega) (by omega) (fun a h1 h2 => by rw [← ya a h1 h2]; funext k; exact up2_a _ h1) (by rw [up2_k _ (by decide)]; exact y3) (up2_same _ _ _ _) ⟨by omega, hv3⟩ (fun k h1 h2 h3 => by rw [up2_k _ h3, yk k h1 h2]; exact hk k h1 h2 h3) (fun e => by rw [up2_k _ (by decide), y5, e])
      clear hv3 hp10 hpb hv
      refine ⟨J, w_X4_takeAllOff_7 hl0 (fun _ _ => ?_) (e1 := fun q => absurd q (by omega)) (e2 := fun _ q => absurd q (by omega)) (v3 := fun _ _ _ => by omega) (v4 := fun _ _ _ => by omega) (v5 := fun _ _ _ => by omega) (v6 := fun _ _ => by rw [yif, y11]; omega) (v7 := fun _ _ => by rw [yif, y5]; omega) (v8 := fun _ _ => by rw [yif, y11, y5]; omega), q2⟩
      rw [yif, y11, y5, show v * 10 + no j % 10 = 10 * v + no j % 10 by omega]
      exact q1
  obtain ⟨J, q1, q2⟩ := lp ly 0 (up2 I 147 11 0) 0 (Nat.le_refl ly) (by omega) (fun a h1 _ => funext (fun k => up2_a _ h1)) (by rw [up2_k _ (by decide)]; exact h3) (up2_same _ _ _ _) (by decide) (fun k _ _ h => up2_k _ h) (fun e => by omega)
  exact ⟨J, w_X4_takeAllOff_0 hl0 q1, q2⟩
/-- what a plan leaves in the class -/
def rnP (I J : Nat → Nat → Int) (m : Nat) (R : Int × PT × Int) : Prop := (∀ a, ¬plW a → a ≠ 32 → J a = I a) ∧ J 147 8 = R.1 ∧ J 147 7 = R.2.2 ∧ J 147 9 = ctG R.2.1.1 m ∧ J 147 10 = R.2.1.2.2.2.2.2.2 ∧ J 147 11 = plO R.2.1.2.2.2.1 R.2.1.2.1 0 ∧ J 147 4 = R.2.1.2.2.2.2.1 ∧ J 147 5 = R.2.1.2.2.2.1 0 ∧ J 147 3 = 0 ∧ J 147 6 = 1
theorem rx_C {X : Nat → Nat → Int} {x : PT} {b st : Int} {i : Int} (hl0 : LyX4 S) (hl1 : LyX10 S) (hl2 : LyX0 S T) (hl3 : LyX2 S 127) (hF : ∀ a, ¬plW a → a ≠ 32 → X a = I a) (hc : clR X m x) (ho : ptO m x) (hev : 0 ≤ x.2.2.2.2.1 ∧ x.2.2.2.2.1 ≤ 1000000) (h8 : X 147 8 = b) (h7 : X 147 7 = st) (h6 : X 147 6 = 1) (hex : b ≠ -1 ∨ X 32 3 = 0) : ∃ J, L_X4_run_40 d 147 32 T 127 i X S (J, S) ∧ rnP I J m (b, x, st) := by
  obtain ⟨g, ly, rw', no, ev, la, mo⟩ := x
  obtain ⟨c1, c2, c3, c4, c5, c6, c7⟩ := hc
  obtain ⟨o1, o2, o3, o4, o5⟩ := ho
  dsimp only at *
  have ec := pnt_cnt c1
  obtain ⟨J, q1, q2, q3, q4, q5, q6⟩ := tf_C (d := d + 7) (I := up2 X 147 9 (bcn (p_or (p_or (p_or (X (148 + 1) 0) (X (148 + 1) 1)) (X (148 + 1) 2)) (X (148 + 1) 3)) 32)) (no := no) (ly := ly) hl0 c2 o2 (fun j hj => ⟨c4 j hj, by have := o4 j hj; omega⟩)
  refine ⟨J, ?_, fun a h1 h2 => ?_, (q6 8 (by decide) (by decide) (by decide)).trans h8, (q6 7 (by decide) (by decide) (by decide)).trans h7, ?_, (q6 10 (by decide) (by decide) (by decide)).trans c7, q4, (q6 4 (by decide) (by decide) (by decide)).trans c5, q5, q3, (q6 6 (by decide) (by decide) (by decide)).trans h6⟩
  · by_cases hb : b = -1
    · have hk : X 32 3 = 0 := hex.resolve_left (fun w => w hb)
      exact w_X4_run_40 (J1 := J) (J2 := J) (J3 := J) (J4 := J) (J5 := J) (z4 := 0) hl0 hl1 hl2 hl3 (fun _ => q1) (fun _ _ => q1) (fun _ _ _ => q1) (fun _ q => absurd hk q) (fun _ q => absurd hk q) (fun _ q => absurd hk q) (fun _ q => absurd hk q) (e1 := fun _ => rfl) (e2 := fun _ _ => rfl) (e3 := fun _ _ _ => rfl) (v1 := fun _ q => absurd hk q) (v2 := fun _ q => absurd hk q) (v3 := fun _ q => absurd hk q)
    · have hk : X 147 8 ≠ -1 := by rw [h8]; exact hb
      exact w_X4_run_40 (J1 := J) (J2 := J) (J3 := J) (J4 := J) (J5 := J) (z4 := 0) hl0 hl1 hl2 hl3 (fun _ => q1) (fun _ _ => q1) (fun _ _ _ => q1) (fun _ _ q => absurd q hk) (fun _ _ q => absurd q hk) (fun _ _ q => absurd q hk) (fun _ _ q => absurd q hk) (e1 := fun _ => rfl) (e2 := fun _ _ => rfl) (e3 := fun _ _ _ => rfl) (v1 := fun _ _ q => absurd q hk) (v2 := fun _ _ q => absurd q hk) (v3 := fun _ _ q => absurd q hk)
  · unfold plW at h1
    rw [q2 a (by omega) (by omega)]
    show up2 X 147 9 _ a = I a
    rw [← hF a (by unfold plW; omega) h2]
    exact funext (fun k => up2_a _ (by omega))
  · rw [q6 9 (by decide) (by decide) (by decide), up2_same]
    exact ec
end
end
