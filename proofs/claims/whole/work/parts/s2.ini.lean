/-! ===== constructors: the class ===== -/
noncomputable section
section
variable {d : Nat} {h : PM}
theorem x11_step {X g h1 : PM} {ops : List OpI} {kd sl k dc ds nx a : Nat} (hX : m_sz X = nx) (h31 : 31 < nx) (hg : g = mkL 31 ops X) (ha : m_sz g = a) (hc : cnF (m_new g kd 0 sl) h1 a k dc ds) : (∀ b, b < nx → b ≠ 31 → h1.1 b = X.1 b ∧ h1.2.1 b = X.2.1 b) ∧ h1.2.1 31 = rfL ops nx (X.2.1 31) ∧ h1.1 31 = ivL ops (X.1 31) ∧ m_sz h1 = nx + nA ops + k ∧ h1.2.2.2.2.1 = X.2.2.2.2.1 + (nA ops + 1 + dc) ∧ h1.2.2.2.2.2 = X.2.2.2.2.2 + (sA ops + sl + ds) ∧ (∀ b, nx ≤ b → b < nx + nA ops + k → b ≠ nx + nA ops → ∀ j, h1.1 b j = 0) ∧ ∀ b, nx ≤ b → b < nx + nA ops → h1.2.1 b = g.2.1 b := by
  obtain ⟨e1, e2, e3, e4, e5, e6, e7⟩ := mkL_all 31 ops X (by omega)
  rw [← hg] at e1 e2 e3 e4 e5 e6 e7
  rw [hX] at e1 e4 e5 e6
  obtain ⟨q2, q3, q4, q5, q6⟩ := hc
  have q5 : h1.2.2.2.2.1 = g.2.2.2.2.1 + 1 + dc := q5
  have q6 : h1.2.2.2.2.2 = g.2.2.2.2.2 + sl + ds := q6
  have o1 : ∀ b, b < a → (m_new g kd 0 sl).1 b = g.1 b ∧ (m_new g kd 0 sl).2.1 b = g.2.1 b := fun b hb => ⟨up1_o _ (by show b ≠ m_sz g; omega), up1_o _ (by show b ≠ m_sz g; omega)⟩
  have gf : ∀ b, b < a → h1.1 b = g.1 b ∧ h1.2.1 b = g.2.1 b := fun b hb => ⟨(q2 b hb).1.trans (o1 b hb).1, (q2 b hb).2.trans (o1 b hb).2⟩
  refine ⟨fun b hb hb31 => ?_, (gf 31 (by omega)).2.trans e6, (gf 31 (by omega)).1.trans e7, by omega, by omega, by omega, fun b b1 b2 b3 j => ?_, fun b b1 b2 => (gf b (by omega)).2⟩
  · have w := e4 b hb hb31
    have w2 := gf b (by omega)
    exact ⟨w2.1.trans w.1, w2.2.trans w.2⟩
  · by_cases c : b < a
    · rw [(gf b c).1]; exact e5 b b1 (by omega) j
    · exact q3 b (by omega) (by omega) j
def op11_1 (r : Rf) : List OpI := [.inr (.inr (0, r)), .inr (.inl (1, 0))]
def op11_2 (r : Rf) : List OpI := [.inr (.inr (2, r))]
def op11_3 (r : Rf) : List OpI := [.inr (.inr (3, r)), .inl (4, 4, 3)]
def op11_4 (r : Rf) : List OpI := [.inr (.inr (5, r))]
def op11_5 (r : Rf) : List OpI := [.inr (.inr (6, r))]
def op11_6 (r : Rf) : List OpI := [.inr (.inr (7, r)), .inr (.inl (8, 0))]
def op11_7 (r : Rf) : List OpI := [.inr (.inr (9, r))]
def op11_0 : List OpI := []
def op11_8 (r : Rf) : List OpI := [.inr (.inr (10, r)), .inl (11, 0, 9), .inl (12, 0, 8), .inl (13, 0, 8), .inl (14, 0, 3), .inr (.inl (15, -1))]
theorem i_X11 (hz : m_sz h = 32) (h0 : ∀ j, h.1 31 j = 0) : ∃ h1, Ca (d + 2) mX11_init [vR (some (21, 0, 31))] h (.inl none) h1 ∧ ((∀ b, b < 31 → h1.1 b = h.1 b ∧ h1.2.1 b = h.2.1 b) ∧ m_sz h1 = 156 ∧ h1.2.2.2.2.1 = h.2.2.2.2.1 + 124 ∧ h1.2.2.2.2.2 = h.2.2.2.2.2 + 3303) ∧ LyX11 h1.2 34 77 ∧ (∀ j, h1.2.1 120 j = none) ∧ (∀ b, 32 ≤ b → b < 156 → b ≠ 144 → b ≠ 147 → ∀ j, h1.1 b j = 0) ∧ (h1.1 147 5 = -1 ∧ ∀ j, j ≠ 5 → j ≠ 8 → h1.1 147 j = 0) ∧ h1.1 31 15 = -1 ∧ ∀ j, j ≠ 15 → h1.1 31 j = 0 := by
  have x0 : m_sz h = 32 := hz
  obtain ⟨G0, hG0⟩ : ∃ G0, G0 = mkL 31 op11_0 h := ⟨_, rfl⟩
  have g0 : m_sz G0 = 32 := by rw [hG0]; exact hz
  obtain ⟨X1, q0, c0, z0, l0⟩ := i_X10 (d := d + 1) (h := m_new G0 20 0 6) (by show m_sz G0 + 1 = 33; omega) (fun j => by show up1 G0.1 (m_sz G0) (fun _ => 0) 32 j = 0; rw [g0, up1_same])
  have q0 : Ca (d + 1) mX10_init [vR (some (20, 0, m_sz G0))] (m_new G0 20 0 6) (.inl none) X1 := by rw [g0]; exact q0
  obtain ⟨f0, r0, v0, x1, cc0, ss0, zz0, nn0⟩ := x11_step (kd := 20) (sl := 6) x0 (by omega) hG0 g0 c0
  have a0 : nA op11_0 = 0 := rfl
  have b0 : sA op11_0 = 0 := rfl
  rw [a0] at x1 cc0 zz0 nn0
  rw [b0] at ss0
  have x1 : m_sz X1 = 34 := x1
  obtain ⟨G1, hG1⟩ : ∃ G, G = mkL 31 (op11_1 (some (20, 0, m_sz G0))) X1 := ⟨_, rfl⟩
  have g1 : m_sz G1 = 34 := by
    have := (mkL_all 31 (op11_1 (some (20, 0, m_sz G0))) X1 (by omega)).1
    rw [hG1, this, x1]
    rfl
  obtain ⟨X2, q1, c1, z1, l1⟩ := i_X0 (d := d) (h := m_new G1 11 0 7) (T := 34) (by show m_sz G1 + 1 = 35; omega) (fun j => by show up1 G1.1 (m_sz G1) (fun _ => 0) 34 j = 0; rw [g1, up1_same])
  have q1 : Ca (d + 1) mX0_init [vR (some (11, 0, m_sz G1))] (m_new G1 11 0 7) (.inl none) X2 := by rw [g1]; exact q1
  obtain ⟨f1, r1, v1, x2, cc1, ss1, zz1, nn1⟩ := x11_step (kd := 11) (sl := 7) x1 (by omega) hG1 g1 c1
  have a1 : nA (op11_1 (some (20, 0, m_sz G0))) = 0 := rfl
  have b1 : sA (op11_1 (some (20, 0, m_sz G0))) = 0 := rfl
  rw [a1] at x2 cc1 zz1 nn1
  rw [b1] at ss1
  have x2 : m_sz X2 = 77 := x2
  obtain ⟨G2, hG2⟩ : ∃ G, G = mkL 31 (op11_2 (some (11, 0, m_sz G1))) X2 := ⟨_, rfl⟩
  have g2 : m_sz G2 = 77 := by
    have := (mkL_all 31 (op11_2 (some (11, 0, m_sz G1))) X2 (by omega)).1
    rw [hG2, this, x2]
    rfl
  obtain ⟨X3, q2, c2, z2, l2⟩ := i_X0 (d := d) (h := m_new G2 11 0 7) (T := 77) (by show m_sz G2 + 1 = 78; omega) (fun j => by show up1 G2.1 (m_sz G2) (fun _ => 0) 77 j = 0; rw [g2, up1_same])
  have q2 : Ca (d + 1) mX0_init [vR (some (11, 0, m_sz G2))] (m_new G2 11 0 7) (.inl none) X3 := by rw [g2]; exact q2
  obtain ⟨f2, r2, v2, x3, cc2, ss2, zz2, nn2⟩ := x11_step (kd := 11) (sl := 7) x2 (by omega) hG2 g2 c2
  have a2 : nA (op11_2 (some (11, 0, m_sz G1))) = 0 := rfl
  have b2 : sA (op11_2 (some (11, 0, m_sz G1))) = 0 := rfl
  rw [a2] at x3 cc2 zz2 nn2
  rw [b2] at ss2
  have x3 : m_sz X3 = 120 := x3
  obtain ⟨G3, hG3⟩ : ∃ G, G = mkL 31 (op11_3 (some (11, 0, m_sz G2))) X3 := ⟨_, rfl⟩
  have g3 : m_sz G3 = 121 := by
    have := (mkL_all 31 (op11_3 (some (11, 0, m_sz G2))) X3 (by omega)).1
    rw [hG3, this, x3]
    rfl
  obtain ⟨X4, q3, c3, z3, l3⟩ := i_X1 (d := d + 1) (h := m_new G3 12 0 4) (by show m_sz G3 + 1 = 122; omega) (fun j => by show up1 G3.1 (m_sz G3) (fun _ => 0) 121 j = 0; rw [g3, up1_same])
  have q3 : Ca (d + 1) mX1_init [vR (some (12, 0, m_sz G3))] (m_new G3 12 0 4) (.inl none) X4 := by rw [g3]; exact q3
  obtain ⟨f3, r3, v3, x4, cc3, ss3, zz3, nn3⟩ := x11_step (kd := 12) (sl := 4) x3 (by omega) hG3 g3 c3
  have a3 : nA (op11_3 (some (11, 0, m_sz G2))) = 1 := rfl
  have b3 : sA (op11_3 (some (11, 0, m_sz G2))) = 3 := rfl
  rw [a3] at x4 cc3 zz3 nn3
  rw [b3] at ss3
  have x4 : m_sz X4 = 126 := x4
  obtain ⟨G4, hG4⟩ : ∃ G, G = mkL 31 (op11_4 (some (12, 0, m_sz G3))) X4 := ⟨_, rfl⟩
  have g4 : m_sz G4 = 126 := by
    have := (mkL_all 31 (op11_4 (some (12, 0, m_sz G3))) X4 (by omega)).1
    rw [hG4, this, x4]
    rfl
  obtain ⟨X5, q4, c4, z4, l4⟩ := i_X9 (d := d) (h := m_new G4 19 0 9) (a := 126) (by show m_sz G4 + 1 = 127; omega) (fun j => by show up1 G4.1 (m_sz G4) (fun _ => 0) 126 j = 0; rw [g4, up1_same])
  have q4 : Ca (d + 1) mX9_init [vR (some (19, 0, m_sz G4))] (m_new G4 19 0 9) (.inl none) X5 := by rw [g4]; exact q4
  obtain ⟨f4, r4, v4, x5, cc4, ss4, zz4, nn4⟩ := x11_step (kd := 19) (sl := 9) x4 (by omega) hG4 g4 c4
  have a4 : nA (op11_4 (some (12, 0, m_sz G3))) = 0 := rfl
  have b4 : sA (op11_4 (some (12, 0, m_sz G3))) = 0 := rfl
  rw [a4] at x5 cc4 zz4 nn4
  rw [b4] at ss4
  have x5 : m_sz X5 = 135 := x5
  obtain ⟨G5, hG5⟩ : ∃ G, G = mkL 31 (op11_5 (some (19, 0, m_sz G4))) X5 := ⟨_, rfl⟩
  have g5 : m_sz G5 = 135 := by
    have := (mkL_all 31 (op11_5 (some (19, 0, m_sz G4))) X5 (by omega)).1
    rw [hG5, this, x5]
    rfl
  obtain ⟨X6, q5, c5, z5, l5⟩ := i_X9 (d := d) (h := m_new G5 19 0 9) (a := 135) (by show m_sz G5 + 1 = 136; omega) (fun j => by show up1 G5.1 (m_sz G5) (fun _ => 0) 135 j = 0; rw [g5, up1_same])
  have q5 : Ca (d + 1) mX9_init [vR (some (19, 0, m_sz G5))] (m_new G5 19 0 9) (.inl none) X6 := by rw [g5]; exact q5
  obtain ⟨f5, r5, v5, x6, cc5, ss5, zz5, nn5⟩ := x11_step (kd := 19) (sl := 9) x5 (by omega) hG5 g5 c5
  have a5 : nA (op11_5 (some (19, 0, m_sz G4))) = 0 := rfl
  have b5 : sA (op11_5 (some (19, 0, m_sz G4))) = 0 := rfl
  rw [a5] at x6 cc5 zz5 nn5
  rw [b5] at ss5
  have x6 : m_sz X6 = 144 := x6
  obtain ⟨G6, hG6⟩ : ∃ G, G = mkL 31 (op11_6 (some (19, 0, m_sz G5))) X6 := ⟨_, rfl⟩
  have g6 : m_sz G6 = 144 := by
    have := (mkL_all 31 (op11_6 (some (19, 0, m_sz G5))) X6 (by omega)).1
    rw [hG6, this, x6]
    rfl
  obtain ⟨X7, q6, c6, z6, l6⟩ := i_X8 (d := d) (h := m_new G6 18 0 4) (a := 144) (by show m_sz G6 + 1 = 145; omega) (fun j => by show up1 G6.1 (m_sz G6) (fun _ => 0) 144 j = 0; rw [g6, up1_same])
  have q6 : Ca (d + 1) mX8_init [vR (some (18, 0, m_sz G6))] (m_new G6 18 0 4) (.inl none) X7 := by rw [g6]; exact q6
  obtain ⟨f6, r6, v6, x7, cc6, ss6, zz6, nn6⟩ := x11_step (kd := 18) (sl := 4) x6 (by omega) hG6 g6 c6
  have a6 : nA (op11_6 (some (19, 0, m_sz G5))) = 0 := rfl
  have b6 : sA (op11_6 (some (19, 0, m_sz G5))) = 0 := rfl
  rw [a6] at x7 cc6 zz6 nn6
  rw [b6] at ss6
  have x7 : m_sz X7 = 147 := x7
  obtain ⟨G7, hG7⟩ : ∃ G, G = mkL 31 (op11_7 (some (18, 0, m_sz G6))) X7 := ⟨_, rfl⟩
  have g7 : m_sz G7 = 147 := by
    have := (mkL_all 31 (op11_7 (some (18, 0, m_sz G6))) X7 (by omega)).1
    rw [hG7, this, x7]
    rfl
  obtain ⟨X8, q7, c7, z7, l7⟩ := i_X4 (d := d) (h := m_new G7 15 0 12) (a := 147) (by show m_sz G7 + 1 = 148; omega) (fun j => by show up1 G7.1 (m_sz G7) (fun _ => 0) 147 j = 0; rw [g7, up1_same])
  have q7 : Ca (d + 1) mX4_init [vR (some (15, 0, m_sz G7))] (m_new G7 15 0 12) (.inl none) X8 := by rw [g7]; exact q7
  obtain ⟨f7, r7, v7, x8, cc7, ss7, zz7, nn7⟩ := x11_step (kd := 15) (sl := 12) x7 (by omega) hG7 g7 c7
  have a7 : nA (op11_7 (some (18, 0, m_sz G6))) = 0 := rfl
  have b7 : sA (op11_7 (some (18, 0, m_sz G6))) = 0 := rfl
  rw [a7] at x8 cc7 zz7 nn7
  rw [b7] at ss7
  have x8 : m_sz X8 = 152 := x8
  obtain ⟨e1, e2, e3, e4, e5, e6, e7⟩ := mkL_all 31 (op11_8 (some (15, 0, m_sz G7))) X8 (by omega)
  obtain ⟨F, hF⟩ : ∃ F, F = mkL 31 (op11_8 (some (15, 0, m_sz G7))) X8 := ⟨_, rfl⟩
  have a8 : nA (op11_8 (some (15, 0, m_sz G7))) = 4 := rfl
  have b8 : sA (op11_8 (some (15, 0, m_sz G7))) = 28 := rfl
  rw [← hF] at e1 e2 e3 e4 e5 e6 e7
  rw [a8] at e1 e2 e5
  rw [b8] at e3
  rw [x8] at e1 e4 e5 e6
  have w8 : ∀ b, b < 152 → b ≠ 31 → F.1 b = X8.1 b ∧ F.2.1 b = X8.2.1 b := fun b hb h31 => e4 b hb h31
  have w7 : ∀ b, b < 147 → b ≠ 31 → F.1 b = X7.1 b ∧ F.2.1 b = X7.2.1 b := fun b hb h31 => ⟨(w8 b (by omega) h31).1.trans (f7 b hb h31).1, (w8 b (by omega) h31).2.trans (f7 b hb h31).2⟩
  have w6 : ∀ b, b < 144 → b ≠ 31 → F.1 b = X6.1 b ∧ F.2.1 b = X6.2.1 b := fun b hb h31 => ⟨(w7 b (by omega) h31).1.trans (f6 b hb h31).1, (w7 b (by omega) h31).2.trans (f6 b hb h31).2⟩
  have w5 : ∀ b, b < 135 → b ≠ 31 → F.1 b = X5.1 b ∧ F.2.1 b = X5.2.1 b := fun b hb h31 => ⟨(w6 b (by omega) h31).1.trans (f5 b hb h31).1, (w6 b (by omega) h31).2.trans (f5 b hb h31).2⟩
  have w4 : ∀ b, b < 126 → b ≠ 31 → F.1 b = X4.1 b ∧ F.2.1 b = X4.2.1 b := fun b hb h31 => ⟨(w5 b (by omega) h31).1.trans (f4 b hb h31).1, (w5 b (by omega) h31).2.trans (f4 b hb h31).2⟩
  have w3 : ∀ b, b < 120 → b ≠ 31 → F.1 b = X3.1 b ∧ F.2.1 b = X3.2.1 b := fun b hb h31 => ⟨(w4 b (by omega) h31).1.trans (f3 b hb h31).1, (w4 b (by omega) h31).2.trans (f3 b hb h31).2⟩
  have w2 : ∀ b, b < 77 → b ≠ 31 → F.1 b = X2.1 b ∧ F.2.1 b = X2.2.1 b := fun b hb h31 => ⟨(w3 b (by omega) h31).1.trans (f2 b hb h31).1, (w3 b (by omega) h31).2.trans (f2 b hb h31).2⟩
  have w1 : ∀ b, b < 34 → b ≠ 31 → F.1 b = X1.1 b ∧ F.2.1 b = X1.2.1 b := fun b hb h31 => ⟨(w2 b (by omega) h31).1.trans (f1 b hb h31).1, (w2 b (by omega) h31).2.trans (f1 b hb h31).2⟩
  have w0 : ∀ b, b < 31 → F.1 b = h.1 b ∧ F.2.1 b = h.2.1 b := fun b hb => ⟨(w1 b (by omega) (by omega)).1.trans (f0 b (by omega) (by omega)).1, (w1 b (by omega) (by omega)).2.trans (f0 b (by omega) (by omega)).2⟩
  rw [r7, r6, r5, r4, r3, r2, r1, r0, g7, g6, g5, g4, g3, g2, g1, g0] at e6
  rw [v7, v6, v5, v4, v3, v2, v1, v0] at e7
  refine ⟨F, ?_, ⟨w0, by omega, by omega, by omega⟩, ?_, fun j => ?_, fun b b1 b2 b3 b4 j => ?_, ⟨?_, fun j j1 j2 => ?_⟩, ?_, fun j hj => ?_⟩
  · rw [hF]
    subst hG0 hG1 hG2 hG3 hG4 hG5 hG6 hG7
    exact Ca.of rfl rfl (b_X11_init_0 q0 (b_X11_init_12 q1 (b_X11_init_28 q2 (b_X11_init_39 q3 (b_X11_init_58 q4 (b_X11_init_69 q5 (b_X11_init_80 q6 (b_X11_init_96 q7 b_X11_init_107))))))))
  · refine ⟨?_, ?_, ?_, ?_, ?_, ?_, ?_, ?_, ?_, ?_, ?_, ?_, ?_, ?_, LyX0_e l1 (fun b b1 b2 => (w2 b (by omega) (by omega)).2), LyX0_e l2 (fun b b1 b2 => (w3 b (by omega) (by omega)).2), ?_, LyX9_e (a := 126) l4 (fun b b1 b2 => (w5 b (by omega) (by omega)).2), LyX9_e (a := 135) l5 (fun b b1 b2 => (w6 b (by omega) (by omega)).2), ?_, ?_⟩
    · show F.2.1 31 0 = _; rw [e6]; rfl
    · show F.2.1 31 2 = _; rw [e6]; rfl
    · show F.2.1 31 3 = _; rw [e6]; rfl
    · show F.2.1 31 4 = _; rw [e6]; rfl
    · show F.2.1 31 5 = _; rw [e6]; rfl
    · show F.2.1 31 6 = _; rw [e6]; rfl
    · show F.2.1 31 7 = _; rw [e6]; rfl
    · show F.2.1 31 9 = _; rw [e6]; rfl
    · show F.2.1 31 10 = _; rw [e6]; rfl
    · show F.2.1 31 11 = _; rw [e6]; rfl
    · show F.2.1 31 12 = _; rw [e6]; rfl
    · show F.2.1 31 13 = _; rw [e6]; rfl
    · show F.2.1 31 14 = _; rw [e6]; rfl
    · unfold LyX10 at l0 ⊢
      rw [(w1 32 (by omega) (by omega)).2]; exact l0
    · unfold LyX1 at l3 ⊢
      rw [(w4 121 (by omega) (by omega)).2]; exact l3
    · unfold LyX8 LyX2
      have l6' : LyX8 X7.2 := l6
      unfold LyX8 LyX2 at l6'
      rw [(w7 144 (by omega) (by omega)).2, (w7 145 (by omega) (by omega)).2]; exact l6'
    · unfold LyX4 LyX2
      have l7' : LyX4 X8.2 := l7
      unfold LyX4 LyX2 at l7'
      rw [(w8 147 (by omega) (by omega)).2, (w8 148 (by omega) (by omega)).2]; exact l7'
  · rw [(w4 120 (by omega) (by omega)).2, nn3 120 (by omega) (by omega), hG3]
    show up2 (up1 (m_sr X3 31 3 (some (11, 0, m_sz G2))).2.1 (m_sz X3) (fun _ => none)) 31 4 (some (4, 3, m_sz X3)) 120 j = none
    rw [x3, up2_a _ (by decide), up1_same]
  · by_cases y8 : 152 ≤ b
    · exact e5 b y8 (by omega) j
    by_cases y7 : 147 ≤ b
    · rw [(w8 b (by omega) (by omega)).1]
      by_cases t7 : b = 147
      · rw [t7]
        exact absurd t7 (by omega)
      · exact zz7 b y7 (by omega) (by omega) j
    by_cases y6 : 144 ≤ b
    · rw [(w7 b (by omega) (by omega)).1]
      by_cases t6 : b = 144
      · rw [t6]
        exact absurd t6 (by omega)
      · exact zz6 b y6 (by omega) (by omega) j
    by_cases y5 : 135 ≤ b
    · rw [(w6 b (by omega) (by omega)).1]
      by_cases t5 : b = 135
      · rw [t5]
        exact z5 j
      · exact zz5 b y5 (by omega) (by omega) j
    by_cases y4 : 126 ≤ b
    · rw [(w5 b (by omega) (by omega)).1]
      by_cases t4 : b = 126
      · rw [t4]
        exact z4 j
      · exact zz4 b y4 (by omega) (by omega) j
    by_cases y3 : 120 ≤ b
    · rw [(w4 b (by omega) (by omega)).1]
      by_cases t3 : b = 121
      · rw [t3]
        exact z3 j
      · exact zz3 b y3 (by omega) (by omega) j
    by_cases y2 : 77 ≤ b
    · rw [(w3 b (by omega) (by omega)).1]
      by_cases t2 : b = 77
      · rw [t2]
        exact z2 j
      · exact zz2 b y2 (by omega) (by omega) j
    by_cases y1 : 34 ≤ b
    · rw [(w2 b (by omega) (by omega)).1]
      by_cases t1 : b = 34
      · rw [t1]
        exact z1 j
      · exact zz1 b y1 (by omega) (by omega) j
    by_cases y0 : 32 ≤ b
    · rw [(w1 b (by omega) (by omega)).1]
      by_cases t0 : b = 32
      · rw [t0]
        exact z0 j
      · exact zz0 b y0 (by omega) (by omega) j
    exact absurd b1 (by omega)
  · rw [(w8 147 (by omega) (by omega)).1]; exact z7.1
  · rw [(w8 147 (by omega) (by omega)).1]; exact z7.2.2 j j1 j2
  · rw [e7]; rfl
  · rw [e7]
    show ivL (op11_8 _) (ivL (op11_7 _) (ivL (op11_6 _) (ivL (op11_5 _) (ivL (op11_4 _) (ivL (op11_3 _) (ivL (op11_2 _) (ivL (op11_1 _) (ivL op11_0 (h.1 31))))))))) j = 0
    show up1 (up1 (up1 (h.1 31) 1 0) 8 0) 15 (-1) j = 0
    rw [up1_o _ hj]
    by_cases c8 : j = 8
    · rw [c8, up1_same]
    rw [up1_o _ c8]
    by_cases c1 : j = 1
    · rw [c1, up1_same]
    rw [up1_o _ c1]
    exact h0 j
end
end
