/-! ===== constructors ===== -/
noncomputable section
abbrev OpI : Type := (Nat × Nat × Nat) ⊕ (Nat × Int) ⊕ (Nat × Rf)
def mkO (a : Nat) (h : PM) : OpI → PM
  | .inl (f, kd, n) => m_sr (m_new h kd n n) a f (some (kd, n, m_sz h))
  | .inr (.inl (k, v)) => m_si h a k v
  | .inr (.inr (f, r)) => m_sr h a f r
/-- what a constructor of object a does to the heap -/
def mkL (a : Nat) : List OpI → PM → PM
  | [], h => h
  | o :: l, h => mkL a l (mkO a h o)
def nA : List OpI → Nat
  | [] => 0
  | .inl _ :: l => nA l + 1
  | .inr (.inl _) :: l => nA l
  | .inr (.inr _) :: l => nA l
def sA : List OpI → Nat
  | [] => 0
  | .inl (_, _, n) :: l => sA l + n
  | .inr (.inl _) :: l => sA l
  | .inr (.inr _) :: l => sA l
def rfL : List OpI → Nat → (Nat → Rf) → Nat → Rf
  | [], _, g => g
  | .inl (f, kd, n) :: l, nx, g => rfL l (nx + 1) (up1 g f (some (kd, n, nx)))
  | .inr (.inl _) :: l, nx, g => rfL l nx g
  | .inr (.inr (f, r)) :: l, nx, g => rfL l nx (up1 g f r)
def ivL : List OpI → (Nat → Int) → Nat → Int
  | [], g => g
  | .inl _ :: l, g => ivL l g
  | .inr (.inl (k, v)) :: l, g => ivL l (up1 g k v)
  | .inr (.inr _) :: l, g => ivL l g
def zL : List OpI → Bool
  | [] => true
  | .inl _ :: l => zL l
  | .inr (.inl (_, v)) :: l => decide (v = 0) && zL l
  | .inr (.inr _) :: l => zL l
theorem iv_0 : ∀ (l : List OpI) (g : Nat → Int), (∀ j, g j = 0) → zL l = true → ∀ j, ivL l g j = 0
  | [], _, hg, _ => hg
  | .inl _ :: l, g, hg, hz => iv_0 l g hg hz
  | .inr (.inr _) :: l, g, hg, hz => iv_0 l g hg hz
  | .inr (.inl (k, v)) :: l, g, hg, hz => by
    obtain ⟨h1, h2⟩ := Bool.and_eq_true_iff.mp hz
    have h1 := of_decide_eq_true h1
    refine iv_0 l (up1 g k v) (fun j => ?_) h2
    by_cases e : j = k
    · rw [e, up1_same]; exact h1
    · rw [up1_o _ e]; exact hg j
theorem mkL_all (a : Nat) : ∀ (l : List OpI) (h : PM), a < m_sz h → m_sz (mkL a l h) = m_sz h + nA l ∧ (mkL a l h).2.2.2.2.1 = h.2.2.2.2.1 + nA l ∧ (mkL a l h).2.2.2.2.2 = h.2.2.2.2.2 + sA l ∧ (∀ b, b < m_sz h → b ≠ a → (mkL a l h).1 b = h.1 b ∧ (mkL a l h).2.1 b = h.2.1 b) ∧ (∀ b, m_sz h ≤ b → b < m_sz h + nA l → ∀ j, (mkL a l h).1 b j = 0) ∧ (mkL a l h).2.1 a = rfL l (m_sz h) (h.2.1 a) ∧ (mkL a l h).1 a = ivL l (h.1 a)
  | [], h, ha => ⟨rfl, rfl, rfl, fun _ _ _ => ⟨rfl, rfl⟩, fun b h1 h2 => absurd (show b < m_sz h from h2) (by omega), rfl, rfl⟩
  | .inl (f, kd, n) :: l, h, ha => by
    obtain ⟨e1, e2, e3, e4, e5, e6, e7⟩ := mkL_all a l (mkO a h (.inl (f, kd, n))) (by show a < m_sz h + 1; omega)
    have z : m_sz (mkO a h (.inl (f, kd, n))) = m_sz h + 1 := rfl
    have na : nA (.inl (f, kd, n) :: l) = nA l + 1 := rfl
    have o1 : ∀ b, b ≠ m_sz h → (mkO a h (.inl (f, kd, n))).1 b = h.1 b := fun b hb => up1_o _ hb
    have o2 : ∀ b, b ≠ m_sz h → b ≠ a → (mkO a h (.inl (f, kd, n))).2.1 b = h.2.1 b := fun b hb hba => (funext (fun j => up2_a _ hba)).trans (up1_o _ hb)
    rw [z] at e1 e4 e5 e6
    refine ⟨e1.trans (by omega), e2.trans (by show h.2.2.2.2.1 + 1 + nA l = h.2.2.2.2.1 + (nA l + 1); omega), e3.trans (by show h.2.2.2.2.2 + n + sA l = h.2.2.2.2.2 + (sA l + n); omega), fun b hb hba => ?_, fun b h1 h2 j => ?_, ?_, ?_⟩
    · have := e4 b (by omega) hba
      exact ⟨this.1.trans (o1 b (by omega)), this.2.trans (o2 b (by omega) hba)⟩
    · by_cases q : b = m_sz h
      · have := (e4 (m_sz h) (by omega) (by omega)).1
        rw [q]
        show (mkL a l (mkO a h (.inl (f, kd, n)))).1 (m_sz h) j = 0
        rw [this]
        exact congrFun (up1_same _ _ _) j
      · exact e5 b (by omega) (by omega) j
    · show (mkL a l (mkO a h (.inl (f, kd, n)))).2.1 a = rfL l (m_sz h + 1) (up1 (h.2.1 a) f (some (kd, n, m_sz h)))
      rw [e6]
      congr 1
      funext k
      show up2 (up1 h.2.1 (m_sz h) (fun _ => none)) a f (some (kd, n, m_sz h)) a k = _
      by_cases q : k = f
      · rw [q, up2_same, up1_same]
      · rw [up2_k _ q, up1_o _ q, up1_o _ (by omega)]
    · show (mkL a l (mkO a h (.inl (f, kd, n)))).1 a = ivL l (h.1 a)
      rw [e7, o1 a (by omega)]
  | .inr (.inl (k, v)) :: l, h, ha => by
    obtain ⟨e1, e2, e3, e4, e5, e6, e7⟩ := mkL_all a l (mkO a h (.inr (.inl (k, v)))) ha
    refine ⟨e1, e2, e3, fun b hb hba => ?_, e5, e6, ?_⟩
    · have := e4 b hb hba
      exact ⟨this.1.trans (funext (fun j => up2_a _ hba)), this.2⟩
    · show (mkL a l (mkO a h (.inr (.inl (k, v))))).1 a = ivL l (up1 (h.1 a) k v)
      rw [e7]
      congr 1
      funext j
      show up2 h.1 a k v a j = _
      by_cases q : j = k
      · rw [q, up2_same, up1_same]
      · rw [up2_k _ q, up1_o _ q]
  | .inr (.inr (f, r)) :: l, h, ha => by
    obtain ⟨e1, e2, e3, e4, e5, e6, e7⟩ := mkL_all a l (mkO a h (.inr (.inr (f, r)))) ha
    refine ⟨e1, e2, e3, fun b hb hba => ?_, e5, ?_, e7⟩
    · have := e4 b hb hba
      exact ⟨this.1, this.2.trans (funext (fun j => up2_a _ hba))⟩
    · show (mkL a l (mkO a h (.inr (.inr (f, r))))).2.1 a = rfL l (m_sz h) (up1 (h.2.1 a) f r)
      rw [e6]
      congr 1
      funext k
      show up2 h.2.1 a f r a k = _
      by_cases q : k = f
      · rw [q, up2_same, up1_same]
      · rw [up2_k _ q, up1_o _ q]
/-- what a constructor leaves alone, what it makes and what it costs -/
def cnF (h h1 : PM) (a k dc ds : Nat) : Prop := (∀ b, b < a → h1.1 b = h.1 b ∧ h1.2.1 b = h.2.1 b) ∧ (∀ b, a < b → b < a + k → ∀ j, h1.1 b j = 0) ∧ m_sz h1 = a + k ∧ h1.2.2.2.2.1 = h.2.2.2.2.1 + dc ∧ h1.2.2.2.2.2 = h.2.2.2.2.2 + ds
section
variable {d a : Nat} {h : PM}
def opX2 : List OpI := [.inl (0, 0, 4)]
theorem i_X2 (hz : m_sz h = a + 1) (h0 : ∀ j, h.1 a j = 0) : ∃ h1, Ca d mX2_init [vR (some (13, 0, a))] h (.inl none) h1 ∧ cnF h h1 a 2 1 4 ∧ (∀ j, h1.1 a j = 0) ∧ LyX2 h1.2 a := by
  obtain ⟨e1, e2, e3, e4, e5, e6, e7⟩ := mkL_all a opX2 h (by omega)
  have na : nA opX2 = 1 := rfl
  rw [na] at e1 e2 e5
  rw [hz] at e1 e4 e5 e6
  refine ⟨mkL a opX2 h, Ca.of rfl rfl b_X2_init_0, ⟨fun b hb => e4 b (by omega) (by omega), fun b h1 h2 j => e5 b (by omega) (by omega) j, e1.trans (by omega), e2, e3⟩, fun j => ?_, ?_⟩
  · rw [e7]; exact iv_0 _ _ h0 rfl j
  · unfold LyX2
    rw [e6]
    exact rfl
def opX7 : List OpI := [.inr (.inl (0, 0)), .inl (1, 0, 48)]
theorem i_X7 (hz : m_sz h = a + 1) (h0 : ∀ j, h.1 a j = 0) : ∃ h1, Ca d mX7_init [vR (some (17, 0, a))] h (.inl none) h1 ∧ cnF h h1 a 2 1 48 ∧ (∀ j, h1.1 a j = 0) ∧ LyX7 h1.2 a := by
  obtain ⟨e1, e2, e3, e4, e5, e6, e7⟩ := mkL_all a opX7 h (by omega)
  have na : nA opX7 = 1 := rfl
  rw [na] at e1 e2 e5
  rw [hz] at e1 e4 e5 e6
  refine ⟨mkL a opX7 h, Ca.of rfl rfl b_X7_init_0, ⟨fun b hb => e4 b (by omega) (by omega), fun b h1 h2 j => e5 b (by omega) (by omega) j, e1.trans (by omega), e2, e3⟩, fun j => ?_, ?_⟩
  · rw [e7]; exact iv_0 _ _ h0 rfl j
  · unfold LyX7
    rw [e6]
    exact rfl
def opX3 : List OpI := [.inr (.inl (0, 0)), .inr (.inl (1, 0)), .inl (2, 0, 7), .inr (.inl (3, 0)), .inr (.inl (4, 0)), .inl (5, 0, 15), .inr (.inl (6, 0)), .inl (7, 0, 15), .inl (8, 0, 4), .inr (.inl (9, 0)), .inl (10, 1, 91), .inl (11, 0, 3), .inl (12, 0, 3), .inl (13, 0, 3), .inr (.inl (14, 0))]
theorem i_X3 (hz : m_sz h = a + 1) (h0 : ∀ j, h.1 a j = 0) : ∃ h1, Ca d mX3_init [vR (some (14, 0, a))] h (.inl none) h1 ∧ cnF h h1 a 9 8 141 ∧ (∀ j, h1.1 a j = 0) ∧ LyX3 h1.2 a := by
  obtain ⟨e1, e2, e3, e4, e5, e6, e7⟩ := mkL_all a opX3 h (by omega)
  have na : nA opX3 = 8 := rfl
  rw [na] at e1 e2 e5
  rw [hz] at e1 e4 e5 e6
  refine ⟨mkL a opX3 h, Ca.of rfl rfl b_X3_init_0, ⟨fun b hb => e4 b (by omega) (by omega), fun b h1 h2 j => e5 b (by omega) (by omega) j, e1.trans (by omega), e2, e3⟩, fun j => ?_, ?_⟩
  · rw [e7]; exact iv_0 _ _ h0 rfl j
  · unfold LyX3
    rw [e6]
    exact ⟨rfl, rfl, rfl, rfl, rfl, rfl, rfl, rfl⟩
end
section
variable {d : Nat} {h : PM}
def opX10 : List OpI := [.inl (0, 1, 700), .inr (.inl (1, 0)), .inr (.inl (2, 0)), .inr (.inl (3, 0)), .inr (.inl (4, 0)), .inr (.inl (5, 0))]
theorem i_X10 (hz : m_sz h = 33) (h0 : ∀ j, h.1 32 j = 0) : ∃ h1, Ca d mX10_init [vR (some (20, 0, 32))] h (.inl none) h1 ∧ cnF h h1 32 2 1 700 ∧ (∀ j, h1.1 32 j = 0) ∧ LyX10 h1.2 := by
  obtain ⟨e1, e2, e3, e4, e5, e6, e7⟩ := mkL_all 32 opX10 h (by omega)
  have na : nA opX10 = 1 := rfl
  rw [na] at e1 e2 e5
  rw [hz] at e1 e4 e5 e6
  refine ⟨mkL 32 opX10 h, Ca.of rfl rfl b_X10_init_0, ⟨fun b hb => e4 b (by omega) (by omega), fun b h1 h2 j => e5 b (by omega) (by omega) j, e1.trans (by omega), e2, e3⟩, fun j => ?_, ?_⟩
  · rw [e7]; exact iv_0 _ _ h0 rfl j
  · unfold LyX10
    rw [e6]
    exact rfl
def opX1 : List OpI := [.inl (0, 0, 594), .inl (1, 0, 3), .inl (2, 0, 7), .inl (3, 0, 6)]
theorem i_X1 (hz : m_sz h = 122) (h0 : ∀ j, h.1 121 j = 0) : ∃ h1, Ca d mX1_init [vR (some (12, 0, 121))] h (.inl none) h1 ∧ cnF h h1 121 5 4 610 ∧ (∀ j, h1.1 121 j = 0) ∧ LyX1 h1.2 := by
  obtain ⟨e1, e2, e3, e4, e5, e6, e7⟩ := mkL_all 121 opX1 h (by omega)
  have na : nA opX1 = 4 := rfl
  rw [na] at e1 e2 e5
  rw [hz] at e1 e4 e5 e6
  refine ⟨mkL 121 opX1 h, Ca.of rfl rfl b_X1_init_0, ⟨fun b hb => e4 b (by omega) (by omega), fun b h1 h2 j => e5 b (by omega) (by omega) j, e1.trans (by omega), e2, e3⟩, fun j => ?_, ?_⟩
  · rw [e7]; exact iv_0 _ _ h0 rfl j
  · unfold LyX1
    rw [e6]
    exact ⟨rfl, rfl, rfl, rfl⟩
end
section
variable {d a : Nat} {h : PM}
def opX9 (r : Rf) : List OpI := [.inr (.inr (0, r)), .inl (1, 0, 6), .inr (.inl (2, 0)), .inl (3, 0, 30), .inl (4, 0, 30), .inl (5, 0, 30), .inr (.inl (6, 0)), .inl (7, 0, 8), .inl (8, 0, 8)]
theorem i_X9 (hz : m_sz h = a + 1) (h0 : ∀ j, h.1 a j = 0) : ∃ h1, Ca (d + 1) mX9_init [vR (some (19, 0, a))] h (.inl none) h1 ∧ cnF h h1 a 9 8 117 ∧ (∀ j, h1.1 a j = 0) ∧ h1.2.1 a 0 = some (13, 0, a + 1) ∧ h1.2.1 a 1 = some (0, 6, a + 3) ∧ h1.2.1 a 3 = some (0, 30, a + 4) ∧ h1.2.1 a 4 = some (0, 30, a + 5) ∧ h1.2.1 a 5 = some (0, 30, a + 6) ∧ h1.2.1 a 7 = some (0, 8, a + 7) ∧ h1.2.1 a 8 = some (0, 8, a + 8) ∧ LyX2 h1.2 (a + 1) := by
  obtain ⟨g, q1, ⟨q2, q3, q4, q5, q6⟩, q7, q8⟩ := i_X2 (d := d) (h := m_new h 13 0 1) (a := m_sz h) rfl (fun j => congrFun (up1_same _ _ _) j)
  rw [hz] at q2 q3 q4 q7 q8
  have q5 : g.2.2.2.2.1 = h.2.2.2.2.1 + 1 + 1 := q5
  have q6 : g.2.2.2.2.2 = h.2.2.2.2.2 + 1 + 4 := q6
  have o1 : ∀ b, b ≠ a + 1 → (m_new h 13 0 1).1 b = h.1 b ∧ (m_new h 13 0 1).2.1 b = h.2.1 b := fun b hb => ⟨up1_o _ (by show b ≠ m_sz h; omega), up1_o _ (by show b ≠ m_sz h; omega)⟩
  obtain ⟨e1, e2, e3, e4, e5, e6, e7⟩ := mkL_all a (opX9 (some (13, 0, m_sz h))) g (by omega)
  have na : nA (opX9 (some (13, 0, m_sz h))) = 6 := rfl
  have sa : sA (opX9 (some (13, 0, m_sz h))) = 112 := rfl
  rw [na] at e1 e2 e5
  rw [sa] at e3
  rw [q4] at e1 e4 e5 e6
  have ga : ∀ j, g.1 a j = 0 := fun j => by rw [(q2 a (by omega)).1, (o1 a (by omega)).1]; exact h0 j
  refine ⟨mkL a (opX9 (some (13, 0, m_sz h))) g, Ca.of rfl rfl (b_X9_init_0 q1 b_X9_init_12), ⟨fun b hb => ?_, fun b h1 h2 j => ?_, e1.trans (by omega), e2.trans (by omega), e3.trans (by omega)⟩, ?_, ?_⟩
  · have w1 := e4 b (by omega) (by omega)
    have w2 := q2 b (by omega)
    have w3 := o1 b (by omega)
    exact ⟨w1.1.trans (w2.1.trans w3.1), w1.2.trans (w2.2.trans w3.2)⟩
  · by_cases w : b < a + 3
    · rw [(e4 b (by omega) (by omega)).1]
      by_cases w2 : b = a + 1
      · rw [w2]; exact q7 j
      · exact q3 b (by omega) (by omega) j
    · exact e5 b (by omega) (by omega) j
  · intro j
    rw [e7]
    exact iv_0 _ _ ga rfl j
  · unfold LyX2
    rw [e6, (e4 (a + 1) (by omega) (by omega)).2, hz]
    exact ⟨rfl, rfl, rfl, rfl, rfl, rfl, rfl, q8⟩
def opX8 (r : Rf) : List OpI := [.inr (.inr (0, r)), .inr (.inl (1, -1)), .inr (.inl (2, -1)), .inr (.inl (3, -1))]
theorem X8_iv {r : Rf} (I : Nat → Nat → Int) (a : Nat) (h0 : ∀ j, I a j = 0) (j : Nat) (w1 : j ≠ 1) (w2 : j ≠ 2) (w3 : j ≠ 3) : ivL (opX8 r) (I a) j = 0 := by
  unfold opX8
  simp only [ivL]
  rw [up1_o _ w3]
  rw [up1_o _ w2]
  rw [up1_o _ w1]
  exact h0 j
theorem i_X8 (hz : m_sz h = a + 1) (h0 : ∀ j, h.1 a j = 0) : ∃ h1, Ca (d + 1) mX8_init [vR (some (18, 0, a))] h (.inl none) h1 ∧ cnF h h1 a 3 2 5 ∧ (h1.1 a 1 = -1 ∧ h1.1 a 2 = -1 ∧ h1.1 a 3 = -1 ∧ ∀ j, j ≠ 1 → j ≠ 2 → j ≠ 3 → h1.1 a j = 0) ∧ h1.2.1 a 0 = some (13, 0, a + 1) ∧ LyX2 h1.2 (a + 1) := by
  obtain ⟨g, q1, ⟨q2, q3, q4, q5, q6⟩, q7, q8⟩ := i_X2 (d := d) (h := m_new h 13 0 1) (a := m_sz h) rfl (fun j => congrFun (up1_same _ _ _) j)
  rw [hz] at q2 q3 q4 q7 q8
  have q5 : g.2.2.2.2.1 = h.2.2.2.2.1 + 1 + 1 := q5
  have q6 : g.2.2.2.2.2 = h.2.2.2.2.2 + 1 + 4 := q6
  have o1 : ∀ b, b ≠ a + 1 → (m_new h 13 0 1).1 b = h.1 b ∧ (m_new h 13 0 1).2.1 b = h.2.1 b := fun b hb => ⟨up1_o _ (by show b ≠ m_sz h; omega), up1_o _ (by show b ≠ m_sz h; omega)⟩
  obtain ⟨e1, e2, e3, e4, e5, e6, e7⟩ := mkL_all a (opX8 (some (13, 0, m_sz h))) g (by omega)
  have na : nA (opX8 (some (13, 0, m_sz h))) = 0 := rfl
  have sa : sA (opX8 (some (13, 0, m_sz h))) = 0 := rfl
  rw [na] at e1 e2 e5
  rw [sa] at e3
  rw [q4] at e1 e4 e5 e6
  have ga : ∀ j, g.1 a j = 0 := fun j => by rw [(q2 a (by omega)).1, (o1 a (by omega)).1]; exact h0 j
  refine ⟨mkL a (opX8 (some (13, 0, m_sz h))) g, Ca.of rfl rfl (b_X8_init_0 q1 b_X8_init_12), ⟨fun b hb => ?_, fun b h1 h2 j => ?_, e1.trans (by omega), e2.trans (by omega), e3.trans (by omega)⟩, ?_, ?_⟩
  · have w1 := e4 b (by omega) (by omega)
    have w2 := q2 b (by omega)
    have w3 := o1 b (by omega)
    exact ⟨w1.1.trans (w2.1.trans w3.1), w1.2.trans (w2.2.trans w3.2)⟩
  · by_cases w : b < a + 3
    · rw [(e4 b (by omega) (by omega)).1]
      by_cases w2 : b = a + 1
      · rw [w2]; exact q7 j
      · exact q3 b (by omega) (by omega) j
    · exact e5 b (by omega) (by omega) j
  · rw [e7]
    refine ⟨?_, ?_, ?_, fun j w1 w2 w3 => ?_⟩
    · rfl
    · rfl
    · rfl
    · exact X8_iv g.1 a ga j w1 w2 w3
  · unfold LyX2
    rw [e6, (e4 (a + 1) (by omega) (by omega)).2, hz]
    exact ⟨rfl, q8⟩
def opX4 (r : Rf) : List OpI := [.inr (.inr (0, r)), .inl (1, 0, 32), .inl (2, 0, 8), .inr (.inl (3, 0)), .inr (.inl (4, 0)), .inr (.inl (5, -1)), .inr (.inl (6, 0)), .inr (.inl (7, 0)), .inr (.inl (8, -1)), .inr (.inl (9, 0)), .inr (.inl (10, 0)), .inr (.inl (11, 0))]
theorem X4_iv {r : Rf} (I : Nat → Nat → Int) (a : Nat) (h0 : ∀ j, I a j = 0) (j : Nat) (w5 : j ≠ 5) (w8 : j ≠ 8) : ivL (opX4 r) (I a) j = 0 := by
  unfold opX4
  simp only [ivL]
  by_cases c11 : j = 11
  · rw [c11, up1_same]
  rw [up1_o _ c11]
  by_cases c10 : j = 10
  · rw [c10, up1_same]
  rw [up1_o _ c10]
  by_cases c9 : j = 9
  · rw [c9, up1_same]
  rw [up1_o _ c9]
  rw [up1_o _ w8]
  by_cases c7 : j = 7
  · rw [c7, up1_same]
  rw [up1_o _ c7]
  by_cases c6 : j = 6
  · rw [c6, up1_same]
  rw [up1_o _ c6]
  rw [up1_o _ w5]
  by_cases c4 : j = 4
  · rw [c4, up1_same]
  rw [up1_o _ c4]
  by_cases c3 : j = 3
  · rw [c3, up1_same]
  rw [up1_o _ c3]
  exact h0 j
theorem i_X4 (hz : m_sz h = a + 1) (h0 : ∀ j, h.1 a j = 0) : ∃ h1, Ca (d + 1) mX4_init [vR (some (15, 0, a))] h (.inl none) h1 ∧ cnF h h1 a 5 4 45 ∧ (h1.1 a 5 = -1 ∧ h1.1 a 8 = -1 ∧ ∀ j, j ≠ 5 → j ≠ 8 → h1.1 a j = 0) ∧ h1.2.1 a 0 = some (13, 0, a + 1) ∧ h1.2.1 a 1 = some (0, 32, a + 3) ∧ h1.2.1 a 2 = some (0, 8, a + 4) ∧ LyX2 h1.2 (a + 1) := by
  obtain ⟨g, q1, ⟨q2, q3, q4, q5, q6⟩, q7, q8⟩ := i_X2 (d := d) (h := m_new h 13 0 1) (a := m_sz h) rfl (fun j => congrFun (up1_same _ _ _) j)
  rw [hz] at q2 q3 q4 q7 q8
  have q5 : g.2.2.2.2.1 = h.2.2.2.2.1 + 1 + 1 := q5
  have q6 : g.2.2.2.2.2 = h.2.2.2.2.2 + 1 + 4 := q6
  have o1 : ∀ b, b ≠ a + 1 → (m_new h 13 0 1).1 b = h.1 b ∧ (m_new h 13 0 1).2.1 b = h.2.1 b := fun b hb => ⟨up1_o _ (by show b ≠ m_sz h; omega), up1_o _ (by show b ≠ m_sz h; omega)⟩
  obtain ⟨e1, e2, e3, e4, e5, e6, e7⟩ := mkL_all a (opX4 (some (13, 0, m_sz h))) g (by omega)
  have na : nA (opX4 (some (13, 0, m_sz h))) = 2 := rfl
  have sa : sA (opX4 (some (13, 0, m_sz h))) = 40 := rfl
  rw [na] at e1 e2 e5
  rw [sa] at e3
  rw [q4] at e1 e4 e5 e6
  have ga : ∀ j, g.1 a j = 0 := fun j => by rw [(q2 a (by omega)).1, (o1 a (by omega)).1]; exact h0 j
  refine ⟨mkL a (opX4 (some (13, 0, m_sz h))) g, Ca.of rfl rfl (b_X4_init_0 q1 b_X4_init_12), ⟨fun b hb => ?_, fun b h1 h2 j => ?_, e1.trans (by omega), e2.trans (by omega), e3.trans (by omega)⟩, ?_, ?_⟩
  · have w1 := e4 b (by omega) (by omega)
    have w2 := q2 b (by omega)
    have w3 := o1 b (by omega)
    exact ⟨w1.1.trans (w2.1.trans w3.1), w1.2.trans (w2.2.trans w3.2)⟩
  · by_cases w : b < a + 3
    · rw [(e4 b (by omega) (by omega)).1]
      by_cases w2 : b = a + 1
      · rw [w2]; exact q7 j
      · exact q3 b (by omega) (by omega) j
    · exact e5 b (by omega) (by omega) j
  · rw [e7]
    refine ⟨?_, ?_, fun j w5 w8 => ?_⟩
    · rfl
    · rfl
    · exact X4_iv g.1 a ga j w5 w8
  · unfold LyX2
    rw [e6, (e4 (a + 1) (by omega) (by omega)).2, hz]
    exact ⟨rfl, rfl, rfl, q8⟩
end
section
variable {d : Nat} {h : PM}
abbrev l12 : PLs := [some (vR (some (22, 0, 156)))]
def op12_36 : List OpI := []
def op12_35 : List OpI := (.inl (64, 0, 16) : OpI) :: op12_36
def op12_34 : List OpI := (.inl (63, 0, 540) : OpI) :: op12_35
def op12_33 : List OpI := (.inl (62, 0, 18) : OpI) :: op12_34
def op12_32 : List OpI := (.inl (57, 0, 16) : OpI) :: op12_33
def op12_31 : List OpI := (.inl (54, 0, 4) : OpI) :: op12_32
def op12_30 : List OpI := (.inl (53, 0, 8) : OpI) :: op12_31
def op12_29 : List OpI := (.inl (52, 0, 96) : OpI) :: op12_30
def op12_28 : List OpI := (.inr (.inl (49, -1)) : OpI) :: op12_29
def op12_27 : List OpI := (.inl (46, 0, 625) : OpI) :: op12_28
def op12_26 : List OpI := (.inl (45, 0, 12) : OpI) :: op12_27
def op12_25 : List OpI := (.inl (43, 0, 12) : OpI) :: op12_26
def op12_24 : List OpI := (.inl (42, 0, 12) : OpI) :: op12_25
def op12_23 : List OpI := (.inl (40, 0, 540) : OpI) :: op12_24
def op12_22 : List OpI := (.inl (39, 0, 36) : OpI) :: op12_23
def op12_21 : List OpI := (.inl (38, 0, 9) : OpI) :: op12_22
def op12_20 : List OpI := (.inl (36, 0, 7) : OpI) :: op12_21
def op12_19 : List OpI := (.inl (35, 0, 7) : OpI) :: op12_20
def op12_18 : List OpI := (.inl (34, 0, 4) : OpI) :: op12_19
def op12_17 : List OpI := (.inl (33, 0, 15) : OpI) :: op12_18
def op12_16 : List OpI := (.inl (32, 0, 16384) : OpI) :: op12_17
def op12_15 : List OpI := (.inl (31, 0, 384) : OpI) :: op12_16
def op12_14 : List OpI := (.inl (30, 0, 384) : OpI) :: op12_15
def op12_13 : List OpI := (.inl (29, 0, 384) : OpI) :: op12_14
def op12_12 : List OpI := (.inl (28, 0, 384) : OpI) :: op12_13
def op12_11 : List OpI := (.inl (27, 0, 4) : OpI) :: op12_12
def op12_10 : List OpI := (.inl (26, 0, 60) : OpI) :: op12_11
def op12_9 : List OpI := (.inl (25, 0, 60) : OpI) :: op12_10
def op12_8 : List OpI := (.inl (24, 0, 120) : OpI) :: op12_9
def op12_7 : List OpI := (.inl (23, 0, 48) : OpI) :: op12_8
def op12_6 : List OpI := (.inl (22, 0, 80) : OpI) :: op12_7
def op12_5 : List OpI := (.inl (21, 0, 120) : OpI) :: op12_6
def op12_4 : List OpI := (.inl (20, 0, 48) : OpI) :: op12_5
def op12_3 : List OpI := (.inl (19, 0, 80) : OpI) :: op12_4
def op12_2 : List OpI := (.inl (5, 0, 3) : OpI) :: op12_3
def op12_1 : List OpI := (.inr (.inl (4, -1)) : OpI) :: op12_2
def op12_0 : List OpI := (.inl (1, 0, 700) : OpI) :: op12_1
theorem p12_36 : Ev d mX12_init (291, l12, [], h) (.inl none, mkL 156 op12_36 h) := s_vret rfl rfl
theorem p12_35 : Ev d mX12_init (283, l12, [], h) (.inl none, mkL 156 op12_35 h) :=
  s_aload_n rfl rfl rfl <|
  s_bipush rfl rfl <|
  s_newa (n := 16) rfl (Or.inl ⟨rfl, rfl⟩) (by decide) <|
  s_putR rfl rfl rfl <|
  p12_36
theorem p12_34 : Ev d mX12_init (274, l12, [], h) (.inl none, mkL 156 op12_34 h) :=
  s_aload_n rfl rfl rfl <|
  s_sipush rfl rfl <|
  s_newa (n := 540) rfl (Or.inl ⟨rfl, rfl⟩) (by decide) <|
  s_putR rfl rfl rfl <|
  p12_35
theorem p12_33 : Ev d mX12_init (266, l12, [], h) (.inl none, mkL 156 op12_33 h) :=
  s_aload_n rfl rfl rfl <|
  s_bipush rfl rfl <|
  s_newa (n := 18) rfl (Or.inl ⟨rfl, rfl⟩) (by decide) <|
  s_putR rfl rfl rfl <|
  p12_34
theorem p12_32 : Ev d mX12_init (258, l12, [], h) (.inl none, mkL 156 op12_32 h) :=
  s_aload_n rfl rfl rfl <|
  s_bipush rfl rfl <|
  s_newa (n := 16) rfl (Or.inl ⟨rfl, rfl⟩) (by decide) <|
  s_putR rfl rfl rfl <|
  p12_33
theorem p12_31 : Ev d mX12_init (251, l12, [], h) (.inl none, mkL 156 op12_31 h) :=
  s_aload_n rfl rfl rfl <|
  s_iconst rfl rfl <|
  s_newa (n := 4) rfl (Or.inl ⟨rfl, rfl⟩) (by decide) <|
  s_putR rfl rfl rfl <|
  p12_32
theorem p12_30 : Ev d mX12_init (243, l12, [], h) (.inl none, mkL 156 op12_30 h) :=
  s_aload_n rfl rfl rfl <|
  s_bipush rfl rfl <|
  s_newa (n := 8) rfl (Or.inl ⟨rfl, rfl⟩) (by decide) <|
  s_putR rfl rfl rfl <|
  p12_31
theorem p12_29 : Ev d mX12_init (235, l12, [], h) (.inl none, mkL 156 op12_29 h) :=
  s_aload_n rfl rfl rfl <|
  s_bipush rfl rfl <|
  s_newa (n := 96) rfl (Or.inl ⟨rfl, rfl⟩) (by decide) <|
  s_putR rfl rfl rfl <|
  p12_30
theorem p12_28 : Ev d mX12_init (230, l12, [], h) (.inl none, mkL 156 op12_28 h) :=
  s_aload_n rfl rfl rfl <|
  s_iconst rfl rfl <|
  s_putI rfl rfl rfl <|
  p12_29
theorem p12_27 : Ev d mX12_init (221, l12, [], h) (.inl none, mkL 156 op12_27 h) :=
  s_aload_n rfl rfl rfl <|
  s_sipush rfl rfl <|
  s_newa (n := 625) rfl (Or.inl ⟨rfl, rfl⟩) (by decide) <|
  s_putR rfl rfl rfl <|
  p12_28
theorem p12_26 : Ev d mX12_init (213, l12, [], h) (.inl none, mkL 156 op12_26 h) :=
  s_aload_n rfl rfl rfl <|
  s_bipush rfl rfl <|
  s_newa (n := 12) rfl (Or.inl ⟨rfl, rfl⟩) (by decide) <|
  s_putR rfl rfl rfl <|
  p12_27
theorem p12_25 : Ev d mX12_init (205, l12, [], h) (.inl none, mkL 156 op12_25 h) :=
  s_aload_n rfl rfl rfl <|
  s_bipush rfl rfl <|
  s_newa (n := 12) rfl (Or.inl ⟨rfl, rfl⟩) (by decide) <|
  s_putR rfl rfl rfl <|
  p12_26
theorem p12_24 : Ev d mX12_init (197, l12, [], h) (.inl none, mkL 156 op12_24 h) :=
  s_aload_n rfl rfl rfl <|
  s_bipush rfl rfl <|
  s_newa (n := 12) rfl (Or.inl ⟨rfl, rfl⟩) (by decide) <|
  s_putR rfl rfl rfl <|
  p12_25
theorem p12_23 : Ev d mX12_init (188, l12, [], h) (.inl none, mkL 156 op12_23 h) :=
  s_aload_n rfl rfl rfl <|
  s_sipush rfl rfl <|
  s_newa (n := 540) rfl (Or.inl ⟨rfl, rfl⟩) (by decide) <|
  s_putR rfl rfl rfl <|
  p12_24
theorem p12_22 : Ev d mX12_init (180, l12, [], h) (.inl none, mkL 156 op12_22 h) :=
  s_aload_n rfl rfl rfl <|
  s_bipush rfl rfl <|
  s_newa (n := 36) rfl (Or.inl ⟨rfl, rfl⟩) (by decide) <|
  s_putR rfl rfl rfl <|
  p12_23
theorem p12_21 : Ev d mX12_init (172, l12, [], h) (.inl none, mkL 156 op12_21 h) :=
  s_aload_n rfl rfl rfl <|
  s_bipush rfl rfl <|
  s_newa (n := 9) rfl (Or.inl ⟨rfl, rfl⟩) (by decide) <|
  s_putR rfl rfl rfl <|
  p12_22
theorem p12_20 : Ev d mX12_init (164, l12, [], h) (.inl none, mkL 156 op12_20 h) :=
  s_aload_n rfl rfl rfl <|
  s_bipush rfl rfl <|
  s_newa (n := 7) rfl (Or.inl ⟨rfl, rfl⟩) (by decide) <|
  s_putR rfl rfl rfl <|
  p12_21
theorem p12_19 : Ev d mX12_init (156, l12, [], h) (.inl none, mkL 156 op12_19 h) :=
  s_aload_n rfl rfl rfl <|
  s_bipush rfl rfl <|
  s_newa (n := 7) rfl (Or.inl ⟨rfl, rfl⟩) (by decide) <|
  s_putR rfl rfl rfl <|
  p12_20
theorem p12_18 : Ev d mX12_init (149, l12, [], h) (.inl none, mkL 156 op12_18 h) :=
  s_aload_n rfl rfl rfl <|
  s_iconst rfl rfl <|
  s_newa (n := 4) rfl (Or.inl ⟨rfl, rfl⟩) (by decide) <|
  s_putR rfl rfl rfl <|
  p12_19
theorem p12_17 : Ev d mX12_init (141, l12, [], h) (.inl none, mkL 156 op12_17 h) :=
  s_aload_n rfl rfl rfl <|
  s_bipush rfl rfl <|
  s_newa (n := 15) rfl (Or.inl ⟨rfl, rfl⟩) (by decide) <|
  s_putR rfl rfl rfl <|
  p12_18
theorem p12_16 : Ev d mX12_init (132, l12, [], h) (.inl none, mkL 156 op12_16 h) :=
  s_aload_n rfl rfl rfl <|
  s_sipush rfl rfl <|
  s_newa (n := 16384) rfl (Or.inl ⟨rfl, rfl⟩) (by decide) <|
  s_putR rfl rfl rfl <|
  p12_17
theorem p12_15 : Ev d mX12_init (123, l12, [], h) (.inl none, mkL 156 op12_15 h) :=
  s_aload_n rfl rfl rfl <|
  s_sipush rfl rfl <|
  s_newa (n := 384) rfl (Or.inl ⟨rfl, rfl⟩) (by decide) <|
  s_putR rfl rfl rfl <|
  p12_16
theorem p12_14 : Ev d mX12_init (114, l12, [], h) (.inl none, mkL 156 op12_14 h) :=
  s_aload_n rfl rfl rfl <|
  s_sipush rfl rfl <|
  s_newa (n := 384) rfl (Or.inl ⟨rfl, rfl⟩) (by decide) <|
  s_putR rfl rfl rfl <|
  p12_15
theorem p12_13 : Ev d mX12_init (105, l12, [], h) (.inl none, mkL 156 op12_13 h) :=
  s_aload_n rfl rfl rfl <|
  s_sipush rfl rfl <|
  s_newa (n := 384) rfl (Or.inl ⟨rfl, rfl⟩) (by decide) <|
  s_putR rfl rfl rfl <|
  p12_14
theorem p12_12 : Ev d mX12_init (96, l12, [], h) (.inl none, mkL 156 op12_12 h) :=
  s_aload_n rfl rfl rfl <|
  s_sipush rfl rfl <|
  s_newa (n := 384) rfl (Or.inl ⟨rfl, rfl⟩) (by decide) <|
  s_putR rfl rfl rfl <|
  p12_13
theorem p12_11 : Ev d mX12_init (89, l12, [], h) (.inl none, mkL 156 op12_11 h) :=
  s_aload_n rfl rfl rfl <|
  s_iconst rfl rfl <|
  s_newa (n := 4) rfl (Or.inl ⟨rfl, rfl⟩) (by decide) <|
  s_putR rfl rfl rfl <|
  p12_12
theorem p12_10 : Ev d mX12_init (81, l12, [], h) (.inl none, mkL 156 op12_10 h) :=
  s_aload_n rfl rfl rfl <|
  s_bipush rfl rfl <|
  s_newa (n := 60) rfl (Or.inl ⟨rfl, rfl⟩) (by decide) <|
  s_putR rfl rfl rfl <|
  p12_11
theorem p12_9 : Ev d mX12_init (73, l12, [], h) (.inl none, mkL 156 op12_9 h) :=
  s_aload_n rfl rfl rfl <|
  s_bipush rfl rfl <|
  s_newa (n := 60) rfl (Or.inl ⟨rfl, rfl⟩) (by decide) <|
  s_putR rfl rfl rfl <|
  p12_10
theorem p12_8 : Ev d mX12_init (65, l12, [], h) (.inl none, mkL 156 op12_8 h) :=
  s_aload_n rfl rfl rfl <|
  s_bipush rfl rfl <|
  s_newa (n := 120) rfl (Or.inl ⟨rfl, rfl⟩) (by decide) <|
  s_putR rfl rfl rfl <|
  p12_9
theorem p12_7 : Ev d mX12_init (57, l12, [], h) (.inl none, mkL 156 op12_7 h) :=
  s_aload_n rfl rfl rfl <|
  s_bipush rfl rfl <|
  s_newa (n := 48) rfl (Or.inl ⟨rfl, rfl⟩) (by decide) <|
  s_putR rfl rfl rfl <|
  p12_8
theorem p12_6 : Ev d mX12_init (49, l12, [], h) (.inl none, mkL 156 op12_6 h) :=
  s_aload_n rfl rfl rfl <|
  s_bipush rfl rfl <|
  s_newa (n := 80) rfl (Or.inl ⟨rfl, rfl⟩) (by decide) <|
  s_putR rfl rfl rfl <|
  p12_7
theorem p12_5 : Ev d mX12_init (41, l12, [], h) (.inl none, mkL 156 op12_5 h) :=
  s_aload_n rfl rfl rfl <|
  s_bipush rfl rfl <|
  s_newa (n := 120) rfl (Or.inl ⟨rfl, rfl⟩) (by decide) <|
  s_putR rfl rfl rfl <|
  p12_6
theorem p12_4 : Ev d mX12_init (33, l12, [], h) (.inl none, mkL 156 op12_4 h) :=
  s_aload_n rfl rfl rfl <|
  s_bipush rfl rfl <|
  s_newa (n := 48) rfl (Or.inl ⟨rfl, rfl⟩) (by decide) <|
  s_putR rfl rfl rfl <|
  p12_5
theorem p12_3 : Ev d mX12_init (25, l12, [], h) (.inl none, mkL 156 op12_3 h) :=
  s_aload_n rfl rfl rfl <|
  s_bipush rfl rfl <|
  s_newa (n := 80) rfl (Or.inl ⟨rfl, rfl⟩) (by decide) <|
  s_putR rfl rfl rfl <|
  p12_4
theorem p12_2 : Ev d mX12_init (18, l12, [], h) (.inl none, mkL 156 op12_2 h) :=
  s_aload_n rfl rfl rfl <|
  s_iconst rfl rfl <|
  s_newa (n := 3) rfl (Or.inl ⟨rfl, rfl⟩) (by decide) <|
  s_putR rfl rfl rfl <|
  p12_3
theorem p12_1 : Ev d mX12_init (13, l12, [], h) (.inl none, mkL 156 op12_1 h) :=
  s_aload_n rfl rfl rfl <|
  s_iconst rfl rfl <|
  s_putI rfl rfl rfl <|
  p12_2
theorem p12_0 : Ev d mX12_init (4, l12, [], h) (.inl none, mkL 156 op12_0 h) :=
  s_aload_n rfl rfl rfl <|
  s_sipush rfl rfl <|
  s_newa (n := 700) rfl (Or.inl ⟨rfl, rfl⟩) (by decide) <|
  s_putR rfl rfl rfl <|
  p12_1
def op12 : List OpI := [.inl (1, 0, 700), .inr (.inl (4, -1)), .inl (5, 0, 3), .inl (19, 0, 80), .inl (20, 0, 48), .inl (21, 0, 120), .inl (22, 0, 80), .inl (23, 0, 48), .inl (24, 0, 120), .inl (25, 0, 60), .inl (26, 0, 60), .inl (27, 0, 4), .inl (28, 0, 384), .inl (29, 0, 384), .inl (30, 0, 384), .inl (31, 0, 384), .inl (32, 0, 16384), .inl (33, 0, 15), .inl (34, 0, 4), .inl (35, 0, 7), .inl (36, 0, 7), .inl (38, 0, 9), .inl (39, 0, 36), .inl (40, 0, 540), .inl (42, 0, 12), .inl (43, 0, 12), .inl (45, 0, 12), .inl (46, 0, 625), .inr (.inl (49, -1)), .inl (52, 0, 96), .inl (53, 0, 8), .inl (54, 0, 4), .inl (57, 0, 16), .inl (62, 0, 18), .inl (63, 0, 540), .inl (64, 0, 16)]
theorem i_X12 (hz : m_sz h = 157) (h0 : ∀ j, h.1 156 j = 0) : ∃ h1, Ca d mX12_init [vR (some (22, 0, 156))] h (.inl none) h1 ∧ cnF h h1 156 35 34 21220 ∧ (h1.1 156 4 = -1 ∧ h1.1 156 49 = -1 ∧ ∀ j, j ≠ 4 → j ≠ 49 → h1.1 156 j = 0) ∧ LyX12 h1.2 := by
  obtain ⟨e1, e2, e3, e4, e5, e6, e7⟩ := mkL_all 156 op12_0 h (by omega)
  have na : nA op12_0 = 34 := rfl
  have sa : sA op12_0 = 21220 := rfl
  rw [na] at e1 e2 e5
  rw [sa] at e3
  rw [hz] at e1 e4 e5 e6
  refine ⟨mkL 156 op12_0 h, Ca.of rfl rfl (s_aload_n rfl rfl rfl (s_obj rfl rfl rfl p12_0)), ⟨fun b hb => e4 b (by omega) (by omega), fun b h1 h2 j => e5 b (by omega) (by omega) j, e1.trans (by omega), e2, e3⟩, ?_, ?_⟩
  · have ei : ivL op12_0 (h.1 156) = up1 (up1 (h.1 156) 4 (-1)) 49 (-1) := rfl
    rw [e7, ei]
    refine ⟨?_, ?_, fun j w4 w49 => ?_⟩
    · rfl
    · rfl
    · rw [up1_o _ w49, up1_o _ w4]; exact h0 j
  · unfold LyX12
    rw [e6]
    exact ⟨rfl, rfl, rfl, rfl, rfl, rfl, rfl, rfl, rfl, rfl, rfl, rfl, rfl, rfl, rfl, rfl, rfl, rfl, rfl, rfl, rfl, rfl, rfl, rfl, rfl, rfl, rfl, rfl, rfl, rfl, rfl, rfl, rfl, rfl⟩
end
end
