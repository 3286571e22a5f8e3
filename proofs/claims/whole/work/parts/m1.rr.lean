/-! ===== what was read so far, both sides alike ===== -/
noncomputable section
/-- rows of edges: both ways alike, of vertices alone -/
def edO (f : Nat → Int) : Prop := (∀ x y : Nat, x < 15 → y < 15 → bt (f x) y = bt (f y) x) ∧ (∀ x, x < 15 → isI (f x)) ∧ ∀ x y, x < 15 → 15 ≤ y → bt (f x) y = false
/-- a piece of the class and one of the reference -/
def pcR (J : Nat → Nat → Int) (A : Nat) (M E : Nat → Int) (p : Nat) : Prop := ∃ H s r c : Nat, ((5 ≤ H ∧ H ≤ 7) ∧ s ≤ H ∧ (5 ≤ r ∧ r ≤ 7) ∧ c ≤ 4) ∧ (J A 0 = (H : Int) ∧ J A 1 = (s : Int) ∧ J A 3 = (r : Int) ∧ J A 4 = (r : Int) + 1 + (s : Int) ∧ J A 6 = (c : Int)) ∧ (M (20 * p) = (H : Int) ∧ M (20 * p + 1) = (s : Int) ∧ M (20 * p + 9) = (r : Int) ∧ M (20 * p + 10) = (c : Int)) ∧ (∀ k, k < s → (5 ≤ J (A + 1) k ∧ J (A + 1) k ≤ 9) ∧ M (20 * p + 2 + k) = J (A + 1) k) ∧ ((∀ v, v < 15 → E (15 * p + v) = J (A + 2) v) ∧ edO (J (A + 2))) ∧ (∀ x, x < 15 → isI (J (A + 3) x)) ∧ (∀ x y : Nat, x < 15 → y < 15 → bt (J (A + 3) x) y = jnM M (p : Int) (x : Int) (y : Int)) ∧ ∀ x y : Nat, x < 15 → y < 15 → jnM M (p : Int) (x : Int) (y : Int) = true → bt (J (A + 2) x) y = true
section
variable {I J K X Y : Nat → Nat → Int} {M M' E E' B : Nat → Int} {A p H s n q c : Nat} {t : Nat → Int}
theorem anyB_0 {f : Nat → Bool} {m : Int} (h : m = 0) : anyB f m.toNat = false := by rw [h]; rfl
theorem pc_start (hH : 5 ≤ H ∧ H ≤ 7) (hs : s ≤ H) (hB : ∀ k, k < s → 5 ≤ B k ∧ B k ≤ 9) (hr : rsz H s B ≤ 7) (hc : pcD J A H s B) (hm : mDt M p H s B ∧ M (20 * p + 9) = rsz H s B ∧ M (20 * p + 10) = 0 ∧ ∀ v, v < 15 → E (15 * p + v) = lkL (fun _ => 0) (epL H s B (rsz H s B)) v) : pcR J A M E p := by
  have r5 := rsz_5 (s := s) (A := B) hH hs (fun k hk => (hB k hk).1)
  obtain ⟨r, er⟩ : ∃ r : Nat, rsz H s B = (r : Int) := ⟨(rsz H s B).toNat, by omega⟩
  have eI := epL_I (H := H) (s := s) (A := B) (r := rsz H s B) (by omega) (by omega)
  obtain ⟨g1, g2, g3⟩ := lkL_good (f := fun _ => 0) eI (fun x y _ _ => by rw [bt_zero, bt_zero]) (fun x _ => isI_nat (m := 0) (by decide)) (fun x y _ _ => bt_zero y)
  obtain ⟨c1, c2, c3, c4, _, c6, c7⟩ := hc
  obtain ⟨m1, m2, m3, m4⟩ := hm
  have jz : ∀ x y : Int, jnM M (p : Int) x y = false := fun x y => by
    unfold jnM
    rw [show ((20 * (p : Int)) + 10).toNat = 20 * p + 10 by omega]
    exact anyB_0 m3
  refine ⟨H, s, r, 0, ⟨hH, hs, by omega, by omega⟩, ⟨c1.1, c1.2.1, by rw [c2, er], by rw [c3, er], c4⟩, ⟨m1.1, m1.2.1, by rw [m2, er], m3⟩, fun k hk => ⟨by rw [c1.2.2 k hk]; exact hB k hk, by rw [m1.2.2 k hk, c1.2.2 k hk]⟩, ⟨fun v hv => by rw [m4 v hv, c6 v hv], ⟨fun x y hx hy => by rw [c6 x hx, c6 y hy]; exact g1 x y hx hy, fun x hx => by rw [c6 x hx]; exact g2 x hx, fun x y hx hy => by rw [c6 x hx]; exact g3 x y hx hy⟩⟩, fun x hx => by rw [c7 x hx]; exact isI_nat (m := 0) (by decide), fun x y hx hy => by rw [c7 x hx, bt_zero, jz], fun x y hx hy w => by rw [jz] at w; cases w⟩
theorem jn_old {k : Nat} (h : k < c) (a b : Int) (x y : Int) : jnP (jnW M p c a b) (p : Int) x y k = jnP M (p : Int) x y k := by
  unfold jnP jnW
  have i1 : (((20 * (p : Int)) + 11) + (2 * (k : Int))).toNat = 20 * p + 11 + 2 * k := by omega
  have i2 : ((((20 * (p : Int)) + 11) + (2 * (k : Int))) + 1).toNat = 20 * p + 12 + 2 * k := by omega
  rw [i1, i2, up1_o _ (show 20 * p + 11 + 2 * k ≠ 20 * p + 10 by omega), up1_o _ (show 20 * p + 11 + 2 * k ≠ 20 * p + 12 + 2 * c by omega), up1_o _ (show 20 * p + 11 + 2 * k ≠ 20 * p + 11 + 2 * c by omega), up1_o _ (show 20 * p + 12 + 2 * k ≠ 20 * p + 10 by omega), up1_o _ (show 20 * p + 12 + 2 * k ≠ 20 * p + 12 + 2 * c by omega), up1_o _ (show 20 * p + 12 + 2 * k ≠ 20 * p + 11 + 2 * c by omega)]
theorem jn_new (a b : Int) (x y : Int) : jnP (jnW M p c a b) (p : Int) x y c = decide ((a = x ∧ b = y) ∨ (a = y ∧ b = x)) := by
  unfold jnP jnW
  have i1 : (((20 * (p : Int)) + 11) + (2 * (c : Int))).toNat = 20 * p + 11 + 2 * c := by omega
  have i2 : ((((20 * (p : Int)) + 11) + (2 * (c : Int))) + 1).toNat = 20 * p + 12 + 2 * c := by omega
  rw [i1, i2, up1_o _ (show 20 * p + 11 + 2 * c ≠ 20 * p + 10 by omega), up1_o _ (show 20 * p + 11 + 2 * c ≠ 20 * p + 12 + 2 * c by omega), up1_same, up1_o _ (show 20 * p + 12 + 2 * c ≠ 20 * p + 10 by omega), up1_same]
theorem jnM_W (hc : M (20 * p + 10) = (c : Int)) (a b x y : Int) : jnM (jnW M p c a b) (p : Int) x y = (jnM M (p : Int) x y || decide ((a = x ∧ b = y) ∨ (a = y ∧ b = x))) := by
  unfold jnM
  have i3 : ((20 * (p : Int)) + 10).toNat = 20 * p + 10 := by omega
  rw [i3, hc, Int.toNat_natCast, show jnW M p c a b (20 * p + 10) = (c : Int) + 1 from up1_same _ _ _, show ((c : Int) + 1).toNat = c + 1 by omega]
  show (anyB _ c || jnP (jnW M p c a b) (p : Int) x y c) = _
  rw [jn_new, anyB_congr (fun k hk => jn_old hk a b x y)]
theorem jnM_cg {x y : Int} (h : ∀ k, 20 * p ≤ k → k < 20 * p + 20 → M' k = M k) (hc : 0 ≤ M (20 * p + 10) ∧ M (20 * p + 10) ≤ 4) : jnM M' (p : Int) x y = jnM M (p : Int) x y := by
  unfold jnM
  have i3 : ((20 * (p : Int)) + 10).toNat = 20 * p + 10 := by omega
  rw [i3, h _ (by omega) (by omega)]
  refine anyB_congr (fun k hk => ?_)
  unfold jnP
  have i1 : (((20 * (p : Int)) + 11) + (2 * (k : Int))).toNat = 20 * p + 11 + 2 * k := by omega
  have i2 : ((((20 * (p : Int)) + 11) + (2 * (k : Int))) + 1).toNat = 20 * p + 12 + 2 * k := by omega
  rw [i1, i2, h _ (by omega) (by omega), h _ (by omega) (by omega)]
theorem pc_frame (h : pcR J A M E p) (h0 : ∀ k, k = 0 ∨ k = 1 ∨ k = 3 ∨ k = 4 ∨ k = 6 → K A k = J A k) (h1 : K (A + 1) = J (A + 1)) (h2 : K (A + 2) = J (A + 2)) (h3 : K (A + 3) = J (A + 3)) (hM : ∀ k, 20 * p ≤ k → k < 20 * p + 20 → M' k = M k) (hE : ∀ k, 15 * p ≤ k → k < 15 * p + 15 → E' k = E k) : pcR K A M' E' p := by
  obtain ⟨H, s, r, c, g1, g2, g3, g4, g5, g6, g7, g8⟩ := h
  have jc : ∀ x y : Int, jnM M' (p : Int) x y = jnM M (p : Int) x y := fun x y => jnM_cg hM (by rw [g3.2.2.2]; omega)
  refine ⟨H, s, r, c, g1, ⟨by rw [h0 0 (by omega)]; exact g2.1, by rw [h0 1 (by omega)]; exact g2.2.1, by rw [h0 3 (by omega)]; exact g2.2.2.1, by rw [h0 4 (by omega)]; exact g2.2.2.2.1, by rw [h0 6 (by omega)]; exact g2.2.2.2.2⟩, ⟨by rw [hM _ (by omega) (by omega)]; exact g3.1, by rw [hM _ (by omega) (by omega)]; exact g3.2.1, by rw [hM _ (by omega) (by omega)]; exact g3.2.2.1, by rw [hM _ (by omega) (by omega)]; exact g3.2.2.2⟩, fun k hk => ?_, ⟨fun v hv => ?_, by rw [h2]; exact g5.2⟩, fun x hx => by rw [h3]; exact g6 x hx, fun x y hx hy => by rw [h3, jc]; exact g7 x y hx hy, fun x y hx hy w => by rw [h2]; rw [jc] at w; exact g8 x y hx hy w⟩
  · rw [h1, hM _ (by omega) (by omega)]; exact g4 k hk
  · rw [h2, hE _ (by omega) (by omega)]; exact g5.1 v hv
/-- whether a join may be told, the class's -/
def jok (J : Nat → Nat → Int) (A : Nat) (a b : Int) : Bool := bt (J (A + 2) a.toNat) b.toNat && !bt (J (A + 3) a.toNat) b.toNat && decide (J A 3 ≤ a ∨ J A 3 ≤ b)
theorem jok_M (h : pcR J A M E p) {a b : Nat} (ha : a < 15) (hb : b < 15) : jok J A a b = (bt (E ((15 * (p : Int)) + (a : Int)).toNat) b && !jnM M (p : Int) (a : Int) (b : Int) && decide (M (20 * p + 9) ≤ (a : Int) ∨ M (20 * p + 9) ≤ (b : Int))) := by
  obtain ⟨H, s, r, c, g1, g2, g3, g4, g5, g6, g7, g8⟩ := h
  unfold jok
  rw [Int.toNat_natCast, Int.toNat_natCast, show ((15 * (p : Int)) + (a : Int)).toNat = 15 * p + a by omega, g5.1 a ha, g7 a b ha hb, g2.2.2.1, g3.2.2.1]
theorem pc_join (h : pcR J A M E p) {a b : Nat} (ha : a < 15) (hb : b < 15) (hok : jok J A a b = true) (hc : J A 6 = (c : Int)) (hc4 : c < 4) (k0 : ∀ k, k = 0 ∨ k = 1 ∨ k = 3 ∨ k = 4 → K A k = J A k) (k6 : K A 6 = J A 6 + 1) (k1 : K (A + 1) = J (A + 1)) (k2 : K (A + 2) = J (A + 2)) (k3 : K (A + 3) = lk (J (A + 3)) a b) (hM : M' = jnW M p c a b) : pcR K A M' E p := by
  obtain ⟨H, s, r, c', g1, g2, g3, g4, g5, g6, g7, g8⟩ := h
  obtain rfl : c' = c := by have := g2.2.2.2.2; omega
  have hw : ∀ k, k ≠ 20 * p + 10 → k < 20 * p + 11 → M' k = M k := fun k h1 h2 => by rw [hM]; unfold jnW; rw [up1_o _ h1, up1_o _ (by omega), up1_o _ (by omega)]
  have jW : ∀ x y : Int, jnM M' (p : Int) x y = (jnM M (p : Int) x y || decide (((a : Int) = x ∧ (b : Int) = y) ∨ ((a : Int) = y ∧ (b : Int) = x))) := fun x y => by rw [hM]; exact jnM_W g3.2.2.2 a b x y
  unfold jok at hok
  rw [Int.toNat_natCast, Int.toNat_natCast, Bool.and_eq_true, Bool.and_eq_true] at hok
  refine ⟨H, s, r, c' + 1, ⟨g1.1, g1.2.1, g1.2.2.1, by omega⟩, ⟨by rw [k0 0 (by omega)]; exact g2.1, by rw [k0 1 (by omega)]; exact g2.2.1, by rw [k0 3 (by omega)]; exact g2.2.2.1, by rw [k0 4 (by omega)]; exact g2.2.2.2.1, by rw [k6, hc]; rfl⟩, ⟨by rw [hw _ (by omega) (by omega)]; exact g3.1, by rw [hw _ (by omega) (by omega)]; exact g3.2.1, by rw [hw _ (by omega) (by omega)]; exact g3.2.2.1, by rw [hM]; exact up1_same _ _ _⟩, fun k hk => ?_, ⟨fun v hv => by rw [k2]; exact g5.1 v hv, by rw [k2]; exact g5.2⟩, fun x hx => by rw [k3]; exact lk_I (g6 x hx), fun x y hx hy => ?_, fun x y hx hy w => ?_⟩
  · rw [k1, hw _ (by omega) (by omega)]; exact g4 k hk
  · rw [k3, lk_bt (by omega) (by omega), g7 x y hx hy, jW]
    congr 1
    exact decide_eq_decide.mpr (by omega)
  · rw [k2]
    rw [jW, Bool.or_eq_true, decide_eq_true_iff] at w
    rcases w with w | w
    · exact g8 x y hx hy w
    · have e := hok.1.1
      rcases w with ⟨w1, w2⟩ | ⟨w1, w2⟩
      · rw [← Int.ofNat_inj.mp w1, ← Int.ofNat_inj.mp w2]; exact e
      · rw [← Int.ofNat_inj.mp w1, ← Int.ofNat_inj.mp w2, g5.2.1 _ _ hb ha]; exact e
end
/-- a rule of both -/
def ruR (J : Nat → Nat → Int) (U : Nat) (W : Nat → Int) (r : Nat) : Prop := (∀ k, k < 8 → J (U + 3) (8 * r + k) = W (8 * r + k)) ∧ (1 ≤ W (8 * r) ∧ W (8 * r) ≤ 99) ∧ 0 ≤ W (8 * r + 7) ∧ W (8 * r + 7) ≤ 2
/-- a spot of both -/
def stR (J : Nat → Nat → Int) (U : Nat) (D : Nat → Int) (s : Nat) : Prop := ∃ g : Nat, (3 ≤ g ∧ g ≤ 9) ∧ J (U + 4) s = (g : Int) ∧ D (10 * s) = (g : Int) ∧ (∀ k, k < g → J (U + 6) (9 * s + k) = D (10 * s + 1 + k) ∧ (0 ≤ D (10 * s + 1 + k) ∧ D (10 * s + 1 + k) < 12)) ∧ isI (J (U + 5) s) ∧ ∀ b, b < 32 → bt (J (U + 5) s) b = anyB (fun k => decide (D (10 * s + 1 + k) = (b : Int))) g
section
variable {I J K X Y : Nat → Nat → Int} {A A' B W : Nat → Int} {U p H s n N q c r : Nat} {t : Nat → Int}
/-- neighbours that are read hang on the row's own beginning alone -/
theorem spL_cg : ∀ (f i q : Nat) (A A' : Nat → Int), (∀ k, k < i → A (10 * N + 1 + k) = A' (10 * N + 1 + k)) → (∀ e, spL t n N f i q A = .inl e → spL t n N f i q A' = .inl e) ∧ ∀ j q' B, spL t n N f i q A = .inr (j, q', B) → ∃ B', spL t n N f i q A' = .inr (j, q', B') ∧ (∀ k, k < j → B (10 * N + 1 + k) = B' (10 * N + 1 + k)) ∧ ∀ k, ¬(10 * N + 1 ≤ k ∧ k < 10 * N + 10) → B' k = A' k := by
  intro f
  induction f with
  | zero => intro i q A A' _; exact ⟨fun e h => h, fun j q' B h => (by cases h)⟩
  | succ f ih =>
    intro i q A A' hA
    have ea : anyB (fun k => decide (A (10 * N + 1 + k) = gsV t n q)) i = anyB (fun k => decide (A' (10 * N + 1 + k) = gsV t n q)) i := anyB_congr (fun k hk => by rw [hA k hk])
    unfold spL
    by_cases k2 : tkK t n q = 2
    · rw [if_pos k2, if_pos k2]
      by_cases c1 : nfK t n q 0 11 ≠ 0 ∨ 9 ≤ i
      · rw [if_pos c1, if_pos c1]
        exact ⟨fun e h => h, fun j q' B h => (by cases h)⟩
      · rw [if_neg c1, if_neg c1, ea]
        by_cases c2 : gsV t n q = (N : Int) ∨ anyB (fun k => decide (A' (10 * N + 1 + k) = gsV t n q)) i = true
        · rw [if_pos c2, if_pos c2]
          exact ⟨fun e h => h, fun j q' B h => (by cases h)⟩
        · rw [if_neg c2, if_neg c2]
          obtain ⟨h1, h2⟩ := ih (i + 1) (tkE t n q) (up1 A (10 * N + 1 + i) (gsV t n q)) (up1 A' (10 * N + 1 + i) (gsV t n q)) (fun k hk => by
            by_cases ki : k = i
            · rw [ki, up1_same, up1_same]
            · rw [up1_o _ (by omega), up1_o _ (by omega)]; exact hA k (by omega))
          refine ⟨h1, fun j q' B h => ?_⟩
          obtain ⟨B', b1, b2, b3⟩ := h2 j q' B h
          exact ⟨B', b1, b2, fun k hk => by rw [b3 k hk, up1_o _ (by omega)]⟩
    · rw [if_neg k2, if_neg k2]
      by_cases i0 : i = 0
      · rw [if_pos i0, if_pos i0]
        exact ⟨fun e h => h, fun j q' B h => (by cases h)⟩
      · rw [if_neg i0, if_neg i0]
        refine ⟨fun e h => (by cases h), fun j q' B h => ?_⟩
        cases h
        exact ⟨A', rfl, hA, fun _ _ => rfl⟩
theorem spL_in : ∀ (f i q : Nat) (A : Nat → Int), i ≤ 9 → q ≤ n → (∀ k, k < i → 0 ≤ A (10 * N + 1 + k) ∧ A (10 * N + 1 + k) < 12) → ∀ j q' B, spL t n N f i q A = .inr (j, q', B) → (j ≤ 9 ∧ q' ≤ n ∧ q ≤ q') ∧ (∀ k, k < j → 0 ≤ B (10 * N + 1 + k) ∧ B (10 * N + 1 + k) < 12) := by
  intro f
  induction f with
  | zero => intro i q A _ _ _ j q' B h; cases h
  | succ f ih =>
    intro i q A hi hq hA j q' B
    have hin := tk_in t hq
    unfold spL
    by_cases k2 : tkK t n q = 2
    · rw [if_pos k2]
      by_cases c1 : nfK t n q 0 11 ≠ 0 ∨ 9 ≤ i
      · rw [if_pos c1]; intro h; cases h
      · rw [if_neg c1]
        have c0 : nfK t n q 0 11 = 0 := Decidable.not_not.mp (fun w => c1 (Or.inl w))
        have hv := nf_0 c0
        by_cases c2 : gsV t n q = (N : Int) ∨ anyB (fun k => decide (A (10 * N + 1 + k) = gsV t n q)) i = true
        · rw [if_pos c2]; intro h; cases h
        · rw [if_neg c2]
          intro h
          obtain ⟨⟨a1, a2, a3⟩, a4⟩ := ih (i + 1) (tkE t n q) _ (by omega) hin.2.2.2 (fun k hk => by
            by_cases ki : k = i
            · rw [ki, up1_same]; omega
            · rw [up1_o _ (by omega)]; exact hA k (by omega)) j q' B h
          exact ⟨⟨a1, a2, by omega⟩, a4⟩
    · rw [if_neg k2]
      by_cases i0 : i = 0
      · rw [if_pos i0]; intro h; cases h
      · rw [if_neg i0]
        intro h
        cases h
        exact ⟨⟨hi, hq, Nat.le_refl _⟩, hA⟩
theorem ru_in {q' : Nat} {w : Nat → Int} (hq : q ≤ n) (h : ruE t n (ruP t n q) = .inr (q', w)) : ((1 ≤ w 0 ∧ w 0 ≤ 99) ∧ 0 ≤ w 7 ∧ w 7 ≤ 2) ∧ tkK t n q' = 3 ∧ ruP t n q = .inr (q', w) := by
  rcases e : ruP t n q with ⟨k, q1⟩ | ⟨q1, w1⟩
  · rw [e] at h; cases h
  · rw [e] at h
    have h : (if tkK t n q1 = 3 then (.inr (q1, w1) : (Int × Nat) ⊕ (Nat × (Nat → Int))) else .inl (1, q1)) = .inr (q', w) := h
    by_cases c3 : tkK t n q1 = 3
    · rw [if_pos c3] at h
      cases h
      refine ⟨?_, c3, rfl⟩
      unfold ruP at e
      by_cases c : nfK t n q 1 99 = 0
      · rw [if_neg (fun w => w c)] at e
        obtain ⟨_, _, c4, c5, _⟩ := nf_0 c
        by_cases d1 : wdK t n (tkE t n q) = 3
        · rw [if_neg (fun w => w d1)] at e
          rcases hg : rgP t n (tkE t n (tkE t n q)) with ⟨k, q1⟩ | ⟨a, b, q2⟩
          · rw [hg] at e; cases e
          · rw [hg] at e
            simp only at e
            by_cases d2 : wdK t n q2 = 4
            · rw [if_neg (fun w => w d2)] at e
              rcases hg2 : rgP t n (tkE t n q2) with ⟨k, q1⟩ | ⟨a2, b2, q3⟩
              · rw [hg2] at e; cases e
              · rw [hg2] at e
                simp only at e
                by_cases d3 : wdK t n q3 = 5 ∨ wdK t n q3 = 6
                · rw [if_pos d3] at e
                  rcases hg3 : rgP t n (tkE t n q3) with ⟨k, q1⟩ | ⟨a3, b3, q4⟩
                  · rw [hg3] at e; cases e
                  · rw [hg3] at e
                    cases e
                    refine ⟨⟨c4, c5⟩, ?_, ?_⟩
                    · show 0 ≤ (if wdK t n q3 = 5 then (1 : Int) else 2); split <;> decide
                    · show (if wdK t n q3 = 5 then (1 : Int) else 2) ≤ 2; split <;> decide
                · rw [if_neg d3] at e
                  cases e
                  exact ⟨⟨c4, c5⟩, Int.le_refl _, (by decide : (0 : Int) ≤ 2)⟩
            · rw [if_pos d2] at e; cases e
        · rw [if_pos d1] at e; cases e
      · rw [if_pos c] at e; cases e
    · rw [if_neg c3] at h; cases h
/-- what was read so far -/
def rrR (U P R N : Nat) (X Y : Nat → Nat → Int) : Prop := (P ≤ 4 ∧ R ≤ 6 ∧ N ≤ 12) ∧ (X U 1 = (P : Int) ∧ X (U + 2) 0 = (R : Int) ∧ X U 6 = (N : Int)) ∧ (Y 156 16 = (P : Int) ∧ Y 156 17 = (R : Int) ∧ Y 156 18 = (N : Int)) ∧ (∀ p, p < P → pcR X (U + 7 + 9 * p) (Y 162) (Y 166) p ∧ X (U + 7 + 9 * p) 9 = 0) ∧ (∀ r, r < R → ruR X U (Y 163) r) ∧ ∀ s, s < N → stR X U (Y 164) s
theorem stR_frame {D D' : Nat → Int} (h : stR J U D s) (h4 : K (U + 4) s = J (U + 4) s) (h5 : K (U + 5) s = J (U + 5) s) (h6 : ∀ k, 9 * s ≤ k → k < 9 * s + 9 → K (U + 6) k = J (U + 6) k) (hD : ∀ k, 10 * s ≤ k → k < 10 * s + 10 → D' k = D k) : stR K U D' s := by
  obtain ⟨g, g1, g2, g3, g4, g5, g6⟩ := h
  refine ⟨g, g1, by rw [h4]; exact g2, by rw [hD _ (by omega) (by omega)]; exact g3, fun k hk => ?_, by rw [h5]; exact g5, fun b hb => ?_⟩
  · rw [h6 _ (by omega) (by omega), hD _ (by omega) (by omega)]; exact g4 k hk
  · rw [h5, g6 b hb]
    exact anyB_congr (fun k hk => by rw [hD _ (by omega) (by omega)])
theorem ruR_frame {W W' : Nat → Int} (h : ruR J U W r) (h3 : ∀ k, 8 * r ≤ k → k < 8 * r + 8 → K (U + 3) k = J (U + 3) k) (hW : ∀ k, 8 * r ≤ k → k < 8 * r + 8 → W' k = W k) : ruR K U W' r := by
  obtain ⟨g1, g2, g3⟩ := h
  unfold ruR
  rw [hW _ (by omega) (by omega), hW _ (by omega) (by omega)]
  exact ⟨fun k hk => by rw [h3 _ (by omega) (by omega), hW _ (by omega) (by omega)]; exact g1 k hk, g2, g3⟩
end
end
