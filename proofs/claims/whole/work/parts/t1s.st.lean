/-! ===== the law's start ===== -/
noncomputable section
section
variable {d L c : Nat} {xs : Nat → Int32} {I J : Nat → Nat → Int} {S S' : PS} {T U : Nat}
theorem LyX11_z (h : LyX11 S T U) (hT : 32 ≤ T ∧ T + 43 ≤ 120) (hU : 32 ≤ U ∧ U + 43 ≤ 120) (e : ∀ b, b < 156 → S'.1 b = S.1 b) : LyX11 S' T U := by
  unfold LyX11 at h
  obtain ⟨h1, h2, h3, h4, h5, h6, h7, h8, h9, h10, h11, h12, h13, h14, h15, h16, h17⟩ := h
  have e31 := e 31 (by decide)
  refine ⟨by rw [e31]; exact h1, by rw [e31]; exact h2, by rw [e31]; exact h3, by rw [e31]; exact h4, by rw [e31]; exact h5, by rw [e31]; exact h6, by rw [e31]; exact h7, by rw [e31]; exact h8, by rw [e31]; exact h9, by rw [e31]; exact h10, by rw [e31]; exact h11, by rw [e31]; exact h12, by rw [e31]; exact h13, ?_, LyX0_e h15 (fun b b1 b2 => e b (by omega)), LyX0_e h16 (fun b b1 b2 => e b (by omega)), ?_⟩
  · unfold LyX10 at h14 ⊢
    rw [e 32 (by decide)]; exact h14
  · unfold LyX1 LyX9 LyX8 LyX4 LyX2 at h17 ⊢
    rw [e 121 (by decide), e 126 (by decide), e (126 + 1) (by decide), e 135 (by decide), e (135 + 1) (by decide), e 144 (by decide), e 145 (by decide), e 147 (by decide), e 148 (by decide)]
    exact h17
def bytI (a j : Nat) : Int := ((st_byt.getD ((a - 5) / 2) []).getD j 0).toInt
theorem h0_byt {a : Nat} (h1 : 5 ≤ a) (h2 : a < 30) (h3 : a % 2 = 1) (j : Nat) : h0i xs a j = bytI a j := by
  unfold h0i bytI
  rw [if_neg (by omega), if_neg (by omega), if_pos ⟨h2, h3⟩]
theorem h0_obj {a : Nat} (h1 : 4 ≤ a) (h3 : a % 2 = 0) (j : Nat) : h0i xs a j = 0 := by
  unfold h0i
  rw [if_neg (by omega), if_neg (by omega), if_neg (by omega)]
theorem wd_all : allB (fun k => Nat.ble 4 (sNo k) && Nat.blt (sNo k + 1) 30 && Nat.beq (sNo k % 2) 0 && allB (fun j => decide (bytI (sNo k + 1) j = ((wL k).getD j 0 : Int))) (wL k).length) 13 = true := by decide +kernel
theorem st_stC (h : ∀ a, a < 30 → I a = h0i xs a) : stC I := fun k hk j hj => by
  have w := allB_iff.mp wd_all k hk
  obtain ⟨w1, w4⟩ := Bool.and_eq_true_iff.mp w
  obtain ⟨w1, w3⟩ := Bool.and_eq_true_iff.mp w1
  obtain ⟨w1, w2⟩ := Bool.and_eq_true_iff.mp w1
  have w1 := Nat.le_of_ble_eq_true w1
  have w2 := Nat.blt_eq.mp w2
  have w3 := Nat.eq_of_beq_eq_true w3
  rw [h _ (by omega), h0_byt (by omega) (by omega) (by omega)]
  exact of_decide_eq_true (allB_iff.mp w4 j hj)
theorem st_str (h : ∀ a, a < 30 → I a = h0i xs a) (hS : ∀ a, a < 30 → S.1 a = h0r a) {n a : Nat} (ha : 4 ≤ a) (ha2 : a + 1 < 30) (ha3 : a % 2 = 0) (hn : n ≤ 100) (hl : st_len.getD ((a - 4) / 2) 0 = n) (hb : allB (fun k => decide (0 ≤ bytI (a + 1) k ∧ bytI (a + 1) k ≤ 127)) n = true) : isStr I S n a := by
  refine ⟨by rw [h a (by omega)]; exact h0_obj ha ha3 1, ?_, hn, fun k hk => ?_⟩
  · rw [hS a (by omega)]
    unfold h0r
    rw [if_pos ⟨ha, by omega, ha3, rfl⟩, hl]
  · rw [h (a + 1) ha2, h0_byt (by omega) ha2 (by omega)]
    exact of_decide_eq_true (allB_iff.mp hb k hk)
theorem st_strs (h : ∀ a, a < 30 → I a = h0i xs a) (hS : ∀ a, a < 30 → S.1 a = h0r a) : strs I S :=
  ⟨st_str h hS (by decide) (by decide) (by decide) (by decide) (by decide) (by decide +kernel), st_str h hS (by decide) (by decide) (by decide) (by decide) (by decide) (by decide +kernel), st_str h hS (by decide) (by decide) (by decide) (by decide) (by decide) (by decide +kernel), st_str h hS (by decide) (by decide) (by decide) (by decide) (by decide) (by decide +kernel), st_str h hS (by decide) (by decide) (by decide) (by decide) (by decide) (by decide +kernel), st_str h hS (by decide) (by decide) (by decide) (by decide) (by decide) (by decide +kernel), st_str h hS (by decide) (by decide) (by decide) (by decide) (by decide) (by decide +kernel), st_str h hS (by decide) (by decide) (by decide) (by decide) (by decide) (by decide +kernel), st_str h hS (by decide) (by decide) (by decide) (by decide) (by decide) (by decide +kernel), st_str h hS (by decide) (by decide) (by decide) (by decide) (by decide) (by decide +kernel), st_str h hS (by decide) (by decide) (by decide) (by decide) (by decide) (by decide +kernel), st_str h hS (by decide) (by decide) (by decide) (by decide) (by decide) (by decide +kernel), st_str h hS (by decide) (by decide) (by decide) (by decide) (by decide) (by decide +kernel)⟩
theorem st_sw {no : Nat} (h1 : 1 ≤ no) (h4 : no < 4) (j : Nat) : h0i xs no j = (swE no j : Int) := by
  unfold h0i
  rw [if_neg (by omega), if_pos (by omega)]
  by_cases hj : j < 20
  · have key : allB (fun n => allB (fun j => decide (((sw_tab (n + 1)).getD j 0).toInt = (swE (n + 1) j : Int))) 20) 3 = true := by decide +kernel
    have w := allB_iff.mp (allB_iff.mp key (no - 1) (by omega)) j hj
    have w := of_decide_eq_true w
    rw [show no - 1 + 1 = no by omega] at w
    exact w
  · have hno : no = 1 ∨ no = 2 ∨ no = 3 := by omega
    obtain ⟨k, rfl⟩ : ∃ k, j = k + 20 := ⟨j - 20, by omega⟩
    rcases hno with rfl | rfl | rfl <;> rfl
theorem st_0 (L : Nat) (xs : Nat → Int32) : ∃ I S, IV 0 34 77 0 0 0 0 I S ∧ ∀ r, Ev 62 mL_law (23, lwL L 0, [], (I, S)) r → Ev 62 mL_law (0, ls0 L, [], h0 L xs) r := by
  obtain ⟨A, a1, ⟨a2, a3, a4, a5⟩, a6, a7, a8, ⟨a9, a10⟩, a11, a12⟩ := i_X11 (d := 59) (h := m_new (h0 L xs) 21 0 16) rfl (fun j => by show up1 (h0i xs) 31 (fun _ => 0) 31 j = 0; rw [up1_same])
  obtain ⟨B, b1, ⟨b2, b3, b4, b5, b6⟩, ⟨b7, b8, b9⟩, b10⟩ := i_X12 (d := 61) (h := m_new A 22 0 65) (by show m_sz A + 1 = 157; omega) (fun j => by show up1 A.1 (m_sz A) (fun _ => 0) 156 j = 0; rw [a3, up1_same])
  have a4 : A.2.2.2.2.1 = 1 + 124 := a4
  have a5 : A.2.2.2.2.2 = 16 + 3303 := a5
  have b5 : B.2.2.2.2.1 = A.2.2.2.2.1 + 1 + 34 := b5
  have b6 : B.2.2.2.2.2 = A.2.2.2.2.2 + 65 + 21220 := b6
  obtain ⟨Z, hZ⟩ : ∃ Z, Z = m_new B 2 1 1 := ⟨_, rfl⟩
  have z1 : ∀ b, b ≠ 191 → Z.1 b = B.1 b ∧ Z.2.1 b = B.2.1 b := fun b hb => by
    rw [hZ]
    exact ⟨up1_o _ (by show b ≠ m_sz B; omega), up1_o _ (by show b ≠ m_sz B; omega)⟩
  have zA : ∀ b, b < 156 → Z.1 b = A.1 b ∧ Z.2.1 b = A.2.1 b := fun b hb => by
    have w1 := z1 b (by omega)
    have w2 := b2 b hb
    have w3 : (m_new A 22 0 65).1 b = A.1 b ∧ (m_new A 22 0 65).2.1 b = A.2.1 b := ⟨up1_o _ (by show b ≠ m_sz A; omega), up1_o _ (by show b ≠ m_sz A; omega)⟩
    exact ⟨w1.1.trans (w2.1.trans w3.1), w1.2.trans (w2.2.trans w3.2)⟩
  have z0 : ∀ b, b < 31 → Z.1 b = h0i xs b ∧ Z.2.1 b = h0r b := fun b hb => by
    have w1 := zA b (by omega)
    have w2 := a2 b hb
    have w3 : (m_new (h0 L xs) 21 0 16).1 b = h0i xs b ∧ (m_new (h0 L xs) 21 0 16).2.1 b = h0r b := ⟨up1_o _ (by show b ≠ 31; omega), up1_o _ (by show b ≠ 31; omega)⟩
    exact ⟨w1.1.trans (w2.1.trans w3.1), w1.2.trans (w2.2.trans w3.2)⟩
  have zz : ∀ b, 32 ≤ b → b < 156 → b ≠ 144 → b ≠ 147 → ∀ j, Z.1 b j = 0 := fun b c1 c2 c3 c4 j => by rw [(zA b c2).1]; exact a8 b c1 c2 c3 c4 j
  have zh : ∀ b, 156 < b → b < 191 → ∀ j, Z.1 b j = 0 := fun b c1 c2 j => by rw [(z1 b (by omega)).1]; exact b3 b c1 (by omega) j
  have m31 : ∀ j, j ≠ 15 → Z.1 31 j = 0 := fun j hj => by rw [(zA 31 (by decide)).1]; exact a12 j hj
  have m15 : Z.1 31 15 = -1 := by rw [(zA 31 (by decide)).1]; exact a11
  have m156 : ∀ j, j ≠ 4 → j ≠ 49 → Z.1 156 j = 0 := fun j h4 h49 => by rw [(z1 156 (by decide)).1]; exact b9 j h4 h49
  have m4 : Z.1 156 4 = -1 := by rw [(z1 156 (by decide)).1]; exact b7
  have m49 : Z.1 156 49 = -1 := by rw [(z1 156 (by decide)).1]; exact b8
  have m147 : ∀ j, j ≠ 5 → j ≠ 8 → Z.1 147 j = 0 := fun j h5 h8 => by rw [(zA 147 (by decide)).1]; exact a10 j h5 h8
  have m5 : Z.1 147 5 = -1 := by rw [(zA 147 (by decide)).1]; exact a9
  have s120 : ∀ j, Z.2.1 120 j = none := fun j => by rw [(zA 120 (by decide)).2]; exact a7 j
  have zn : Z.2.2.2.1 = 192 := by rw [hZ]; show m_sz B + 1 = 192; omega
  have zc : Z.2.2.2.2.1 = 161 := by rw [hZ]; show B.2.2.2.2.1 + 1 = 161; omega
  have zs : Z.2.2.2.2.2 = 24605 := by rw [hZ]; show B.2.2.2.2.2 + 1 = 24605; omega
  have hr3 : rnN Z.2 = 3 := by unfold rnN; rw [s120 0, s120 1, s120 2]; rfl
  refine ⟨Z.1, Z.2, ⟨⟨LyX11_z a6 (by omega) (by omega) (fun b hb => (zA b hb).2), ?_, Or.inl ⟨rfl, rfl⟩⟩, ⟨by omega, m31 1 (by decide), m156 2 (by decide) (by decide), fun k => ?_⟩, ⟨by rw [m15, m4], fun j hj => ?_⟩, ⟨by omega, ?_, m156 13 (by decide) (by decide), fun p hp => absurd hp (by omega)⟩, ⟨by omega, ?_, m156 14 (by decide) (by decide), fun r hr => absurd hr (by omega)⟩, ⟨by omega, ?_, m156 15 (by decide) (by decide), fun s hs => absurd hs (by omega), fun s k hs => absurd hs (by omega)⟩, ?_, ⟨?_, Or.inl (m156 59 (by decide) (by decide))⟩, ?_, ⟨Or.inl ?_, Or.inl ?_, Or.inl ?_⟩, ⟨⟨?_, fun i _ => Or.inl (s120 i), fun i j a b _ _ _ ha _ => ?_⟩, fun no j h1 h4 => ⟨?_, ?_⟩, st_stC (xs := xs) (fun a ha => (z0 a (by omega)).1), st_strs (xs := xs) (fun a ha => (z0 a (by omega)).1) (fun a ha => (z0 a (by omega)).2)⟩, ?_⟩, fun r k => ?_⟩
  · unfold LyX12 at b10 ⊢
    rw [(z1 156 (by decide)).2]; exact b10
  · rw [zz 33 (by decide) (by decide) (by decide) (by decide) k, zh 157 (by decide) (by decide) k]
    exact ⟨by decide, by decide⟩
  · rw [zz 155 (by decide) (by decide) (by decide) (by decide) j, zh 158 (by decide) (by decide) j]
    exact ⟨rfl, by decide, by decide⟩
  · exact zz 34 (by decide) (by decide) (by decide) (by decide) 1
  · exact zz 36 (by decide) (by decide) (by decide) (by decide) 0
  · exact zz 34 (by decide) (by decide) (by decide) (by decide) 6
  · refine ⟨⟨⟨by omega, fun i hi => absurd hi (by omega)⟩, fun cc hcc => ?_⟩, fun r hr => absurd hr (by omega), ⟨0, by omega, zz 126 (by decide) (by decide) (by decide) (by decide) 2, m156 41 (by decide) (by decide), fun k hk => absurd hk (by omega)⟩, 0, by omega, zz 126 (by decide) (by decide) (by decide) (by decide) 6, m156 56 (by decide) (by decide), fun i hi => absurd hi (by omega)⟩
    show isI (Z.1 128 cc) ∧ ∀ i, bt (Z.1 128 cc) i = _
    rw [zz 128 (by decide) (by decide) (by decide) (by decide) cc]
    refine ⟨by unfold isI; omega, fun i => ?_⟩
    rw [bt_zero, decide_eq_false (show ¬(i < 0) by omega), Bool.false_and]
  · rw [m31 8 (by decide), m156 59 (by decide) (by decide)]
  · refine ⟨m147 3 (by decide) (by decide), ?_, ?_, ?_, Or.inl (m156 47 (by decide) (by decide)), ?_, fun q => ?_, ?_, fun k hk => ?_⟩
    · rw [m147 4 (by decide) (by decide), m156 48 (by decide) (by decide)]
    · rw [m5, m49]
    · rw [m147 6 (by decide) (by decide), m156 47 (by decide) (by decide)]
    · rw [m156 48 (by decide) (by decide)]; omega
    · rw [m156 47 (by decide) (by decide)] at q; exact absurd q (by decide)
    · rw [m49]; omega
    · rw [zz 154 (by decide) (by decide) (by decide) (by decide) k]; omega
  · exact zz 123 (by decide) (by decide) (by decide) (by decide) _
  · exact zz 123 (by decide) (by decide) (by decide) (by decide) _
  · exact zz 123 (by decide) (by decide) (by decide) (by decide) _
  · rw [zn]; exact Nat.le_refl _
  · rw [s120 i] at ha; cases ha
  · rw [(z0 no (by omega)).1]; exact st_sw h1 h4 j
  · rw [(z0 0 (by omega)).1]
    show isI (xs j).toInt
    unfold isI
    have := Int32.toInt_lt (xs j)
    have := Int32.le_toInt (xs j)
    omega
  · unfold iZ
    rw [zc, zs, hr3]
    omega
  · refine b5_L_law_0 a1 ?_
    refine b5_L_law_7 (by rw [a3]; exact b1) ?_
    refine b5_L_law_15 ?_
    rw [a3, show m_sz B = 191 by omega, ← hZ]
    exact k
end
end
