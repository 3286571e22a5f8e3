/-! ===== constructors: the atlas and the class ===== -/
noncomputable section
section
variable {d T : Nat} {h : PM} {S S' : PS}
theorem LyX3_e {a : Nat} (w : LyX3 S a) (e : S'.1 a = S.1 a) : LyX3 S' a := by
  unfold LyX3 at w ⊢
  rw [e]; exact w
theorem LyX0_e {a : Nat} (w : LyX0 S a) (e : ∀ b, a ≤ b → b < a + 43 → S'.1 b = S.1 b) : LyX0 S' a := by
  unfold LyX0 LyX7 at w ⊢
  rw [e a (by omega) (by omega), e (a + 1) (by omega) (by omega), e (a + 2) (by omega) (by omega)]
  obtain ⟨g1, g2, g3, g4, g5, g6, g7⟩ := w
  exact ⟨g1, g2, g3, g4, g5, fun i hi => ⟨(g6 i hi).1, LyX3_e (g6 i hi).2 (e _ (by omega) (by omega))⟩, g7⟩
theorem LyX9_e {a : Nat} (w : LyX9 S a) (e : ∀ b, a ≤ b → b < a + 9 → S'.1 b = S.1 b) : LyX9 S' a := by
  unfold LyX9 LyX2 at w ⊢
  rw [e a (by omega) (by omega), e (a + 1) (by omega) (by omega)]
  exact w
/-- pieces of an atlas so far -/
def lpA (T i : Nat) (h X : PM) : Prop := m_sz X = T + 7 + 9 * i ∧ X.2.2.2.2.1 = h.2.2.2.2.1 + (6 + 9 * i) ∧ X.2.2.2.2.2 = h.2.2.2.2.2 + (186 + 156 * i) ∧ (∀ b, b < T → X.1 b = h.1 b ∧ X.2.1 b = h.2.1 b) ∧ (∀ b, T ≤ b → b < T + 7 + 9 * i → ∀ j, X.1 b j = 0) ∧ (X.2.1 T 0 = some (3, 4, T + 1) ∧ X.2.1 T 2 = some (17, 0, T + 2) ∧ X.2.1 T 3 = some (0, 12, T + 4) ∧ X.2.1 T 4 = some (0, 12, T + 5) ∧ X.2.1 T 5 = some (0, 108, T + 6)) ∧ (∀ j, j < i → X.2.1 (T + 1) j = some (14, 0, T + 7 + 9 * j) ∧ LyX3 X.2 (T + 7 + 9 * j)) ∧ LyX7 X.2 (T + 2)
theorem x0_loop : ∀ (t i : Nat) (X : PM), i + t = 4 → lpA T i h X → ∃ h1, Ev (d + 1) mX0_init (59, [some (vR (some (11, 0, T))), some (vI (i : Int))], [], X) (.inl none, h1) ∧ lpA T 4 h h1 := by
  intro t
  induction t with
  | zero =>
    intro i X hi hX
    have hi4 : i = 4 := by omega
    subst hi4
    exact ⟨X, b_X0_init_59 (fun _ => b_X0_init_83) (fun q => absurd q (by decide)), hX⟩
  | succ t ih =>
    intro i X hi hX
    obtain ⟨p1, p2, p3, p4, p5, p6, p7, p8⟩ := hX
    obtain ⟨g, q1, ⟨q2, q3, q4, q5, q6⟩, q7, q8⟩ := i_X3 (d := d) (h := m_new X 14 0 15) (a := m_sz X) rfl (fun j => congrFun (up1_same _ _ _) j)
    have q5 : g.2.2.2.2.1 = X.2.2.2.2.1 + 1 + 8 := q5
    have q6 : g.2.2.2.2.2 = X.2.2.2.2.2 + 15 + 141 := q6
    have o1 : ∀ b, b < m_sz X → (m_new X 14 0 15).1 b = X.1 b ∧ (m_new X 14 0 15).2.1 b = X.2.1 b := fun b hb => ⟨up1_o _ (by show b ≠ m_sz X; omega), up1_o _ (by show b ≠ m_sz X; omega)⟩
    have gf : ∀ b, b < m_sz X → g.1 b = X.1 b ∧ g.2.1 b = X.2.1 b := fun b hb => ⟨(q2 b hb).1.trans (o1 b hb).1, (q2 b hb).2.trans (o1 b hb).2⟩
    rw [p1] at q3 q4 q7 q8 gf
    obtain ⟨Z, hZ⟩ : ∃ Z, Z = m_sr g (T + 1) ((i : Int).toNat) (some (14, 0, m_sz X)) := ⟨_, rfl⟩
    have z1 : Z.1 = g.1 := by rw [hZ]; rfl
    have z2 : ∀ b, b ≠ T + 1 → Z.2.1 b = g.2.1 b := fun b hb => by rw [hZ]; exact funext (fun j => up2_a _ hb)
    have z3 : Z.2.1 (T + 1) = up1 (g.2.1 (T + 1)) i (some (14, 0, T + 7 + 9 * i)) := by
      rw [hZ, p1, Int.toNat_natCast]
      funext j
      show up2 g.2.1 (T + 1) i _ (T + 1) j = _
      by_cases e : j = i
      · rw [e, up2_same, up1_same]
      · rw [up2_k _ e, up1_o _ e]
    have zn : m_sz Z = T + 7 + 9 * (i + 1) := by
      have : m_sz Z = m_sz g := by rw [hZ]; rfl
      omega
    have zc : Z.2.2.2.2.1 = g.2.2.2.2.1 := by rw [hZ]; rfl
    have zs : Z.2.2.2.2.2 = g.2.2.2.2.2 := by rw [hZ]; rfl
    have hlp : lpA T (i + 1) h Z := by
      refine ⟨zn, by omega, by omega, fun b hb => ?_, fun b hb1 hb2 j => ?_, ?_, fun j hj => ?_, ?_⟩
      · rw [z1, z2 b (by omega)]
        have w := gf b (by omega)
        have w2 := p4 b hb
        exact ⟨w.1.trans w2.1, w.2.trans w2.2⟩
      · rw [z1]
        by_cases e : b < T + 7 + 9 * i
        · rw [(gf b (by omega)).1]; exact p5 b hb1 (by omega) j
        · by_cases e2 : b = T + 7 + 9 * i
          · rw [e2]; exact q7 j
          · exact q3 b (by omega) (by omega) j
      · rw [z2 T (by omega), (gf T (by omega)).2]; exact p6
      · rw [z3]
        by_cases e : j = i
        · subst e
          rw [up1_same]
          exact ⟨rfl, LyX3_e q8 (z2 _ (by omega))⟩
        · rw [up1_o _ e, (gf (T + 1) (by omega)).2]
          have w := p7 j (by omega)
          exact ⟨w.1, LyX3_e w.2 ((z2 _ (by omega)).trans (gf _ (by omega)).2)⟩
      · unfold LyX7 at p8 ⊢
        rw [z2 _ (by omega), (gf _ (by omega)).2]; exact p8
    obtain ⟨h1, r1, r2⟩ := ih (i + 1) Z (by omega) hlp
    refine ⟨h1, b_X0_init_59 (fun q => absurd q (by omega)) (fun _ => b_X0_init_64 p6.1 q1 (b_X0_init_76 (by omega) (by omega) ?_)), r2⟩
    rw [hZ, show ((i + 1 : Nat) : Int) = (i : Int) + 1 by omega] at r1
    exact r1
def opX0a : List OpI := [.inl (0, 3, 4), .inr (.inl (1, 0))]
def opX0b (r : Rf) : List OpI := [.inr (.inr (2, r)), .inl (3, 0, 12), .inl (4, 0, 12), .inl (5, 0, 108), .inr (.inl (6, 0))]
theorem i_X0 (hz : m_sz h = T + 1) (h0 : ∀ j, h.1 T j = 0) : ∃ h1, Ca (d + 1) mX0_init [vR (some (11, 0, T))] h (.inl none) h1 ∧ cnF h h1 T 43 42 810 ∧ (∀ j, h1.1 T j = 0) ∧ LyX0 h1.2 T := by
  obtain ⟨e1, e2, e3, e4, e5, e6, e7⟩ := mkL_all T opX0a h (by omega)
  obtain ⟨G, hG⟩ : ∃ G, G = mkL T opX0a h := ⟨_, rfl⟩
  have n1 : nA opX0a = 1 := rfl
  have s1 : sA opX0a = 4 := rfl
  rw [← hG] at e1 e2 e3 e4 e5 e6 e7
  rw [n1] at e1 e2 e5
  rw [s1] at e3
  rw [hz] at e1 e4 e5 e6
  obtain ⟨g, q1, ⟨q2, q3, q4, q5, q6⟩, q7, q8⟩ := i_X7 (d := d) (h := m_new G 17 0 2) (a := m_sz G) rfl (fun j => congrFun (up1_same _ _ _) j)
  have q5 : g.2.2.2.2.1 = G.2.2.2.2.1 + 1 + 1 := q5
  have q6 : g.2.2.2.2.2 = G.2.2.2.2.2 + 2 + 48 := q6
  have o1 : ∀ b, b < m_sz G → (m_new G 17 0 2).1 b = G.1 b ∧ (m_new G 17 0 2).2.1 b = G.2.1 b := fun b hb => ⟨up1_o _ (by show b ≠ m_sz G; omega), up1_o _ (by show b ≠ m_sz G; omega)⟩
  have gf : ∀ b, b < m_sz G → g.1 b = G.1 b ∧ g.2.1 b = G.2.1 b := fun b hb => ⟨(q2 b hb).1.trans (o1 b hb).1, (q2 b hb).2.trans (o1 b hb).2⟩
  obtain ⟨f1, f2, f3, f4, f5, f6, f7⟩ := mkL_all T (opX0b (some (17, 0, m_sz G))) g (by omega)
  obtain ⟨Z, hZ⟩ : ∃ Z, Z = mkL T (opX0b (some (17, 0, m_sz G))) g := ⟨_, rfl⟩
  have n2 : nA (opX0b (some (17, 0, m_sz G))) = 3 := rfl
  have s2 : sA (opX0b (some (17, 0, m_sz G))) = 132 := rfl
  rw [← hZ] at f1 f2 f3 f4 f5 f6 f7
  rw [n2] at f1 f2 f5
  rw [s2] at f3
  have mG : m_sz G = T + 2 := by omega
  rw [mG] at q3 q4 q7 q8 gf f6
  have ga : ∀ j, G.1 T j = 0 := fun j => by rw [e7]; exact iv_0 _ _ h0 rfl j
  have gT : g.1 T = G.1 T ∧ g.2.1 T = G.2.1 T := gf T (by omega)
  have zr : Z.2.1 T 0 = some (3, 4, T + 1) ∧ Z.2.1 T 2 = some (17, 0, T + 2) ∧ Z.2.1 T 3 = some (0, 12, T + 4) ∧ Z.2.1 T 4 = some (0, 12, T + 5) ∧ Z.2.1 T 5 = some (0, 108, T + 6) := by
    rw [f6, gT.2, e6, q4]
    exact ⟨rfl, rfl, rfl, rfl, rfl⟩
  have zi : ∀ j, Z.1 T j = 0 := fun j => by
    rw [f7, gT.1]
    exact iv_0 _ _ ga rfl j
  have hlp : lpA T 0 h Z := by
    refine ⟨by omega, by omega, by omega, fun b hb => ?_, fun b hb1 hb2 j => ?_, zr, fun j hj => absurd hj (by omega), ?_⟩
    · have w1 := f4 b (by omega) (by omega)
      have w2 := gf b (by omega)
      have w3 := e4 b (by omega) (by omega)
      exact ⟨w1.1.trans (w2.1.trans w3.1), w1.2.trans (w2.2.trans w3.2)⟩
    · by_cases c0 : b = T
      · rw [c0]; exact zi j
      · by_cases c1 : b < T + 4
        · rw [(f4 b (by omega) c0).1]
          by_cases c2 : b = T + 1
          · rw [(gf b (by omega)).1]; exact e5 b (by omega) (by omega) j
          · by_cases c3 : b = T + 2
            · rw [c3]; exact q7 j
            · exact q3 b (by omega) (by omega) j
        · exact f5 b (by omega) (by omega) j
    · unfold LyX7 at q8 ⊢
      rw [(f4 (T + 2) (by omega) (by omega)).2]; exact q8
  obtain ⟨h1, r1, ⟨p1, p2, p3, p4, p5, p6, p7, p8⟩⟩ := x0_loop (d := d) (T := T) (h := h) 4 0 Z rfl hlp
  refine ⟨h1, Ca.of rfl rfl (b_X0_init_0 (by rw [← show mkL T opX0a h = G from hG.symm] at q1; exact q1) (b_X0_init_25 ?_)), ⟨p4, fun b b1 b2 => p5 b (by omega) (by omega), by omega, by omega, by omega⟩, p5 T (by omega) (by omega), ?_⟩
  · rw [hZ, hG] at r1
    exact r1
  · obtain ⟨c1, c2, c3, c4, c5⟩ := p6
    exact ⟨c1, c2, c3, c4, c5, p7, p8⟩
end
end
