/-! ===== a ring is made ===== -/
noncomputable section
section
variable {d : Nat} {r : PO × PM} {h : PM} {mi : Nat × Nat} {pc : Nat} {ls : PLs} {st : List PV}
theorem s_nn_y {off : Int} {kd n a : Nat} (tgt : Nat) (hc : pm_code mi pc = some (.ifnonnull off, 3)) (hk : Nat.beq kd 8 = false) (ht : (decide (0 ≤ (pc : Int) + off) && Nat.beq (p_tgt pc off) tgt) = true) (k : Ev d mi (tgt, ls, st, h) r) : Ev d mi (pc, ls, vR (some (kd, n, a)) :: st, h) r := by
  obtain ⟨h0, h1⟩ := Bool.and_eq_true_iff.mp ht
  have h1 := Nat.eq_of_beq_eq_true h1
  subst h1
  refine ev_step (step_of hc rfl ?_) k
  show (bif Nat.beq kd 8 then none else p_if true pc off ls st h) = _
  rw [hk]
  show p_if true pc off ls st h = _
  unfold p_if
  rw [h0]
  rfl
theorem s_nn_n {off : Int} (hc : pm_code mi pc = some (.ifnonnull off, 3)) (ht : decide (0 ≤ (pc : Int) + off) = true) (k : Ev d mi (pc + 3, ls, st, h) r) : Ev d mi (pc, ls, vR none :: st, h) r := by
  refine ev_step (step_of hc rfl ?_) k
  show p_if false pc off ls st h = _
  unfold p_if
  rw [ht]
  rfl
end
section
variable {d : Nat} {r : PO × PM} {I : Nat → Nat → Int} {S : PS}
theorem b_X6_init_37 {a0 N : Nat} {x1 : Int} {h : PM} (hN : h.1 a0 1 = (N : Int)) (h91 : N ≤ 91) (hm : a0 ≠ m_sz h) (k : Ev d mX6_init (66, [some (vR (some (16, 0, a0))), some (vI x1), some (vI 0), none], [], m_sr (m_new (m_sr (m_new h 1 (3 * N) (3 * N)) a0 4 (some (1, 3 * N, m_sz h))) 1 (48 * N) (48 * N)) a0 5 (some (1, 48 * N, m_sz h + 1))) r) : Ev d mX6_init (37, [some (vR (some (16, 0, a0))), some (vI x1), none, none], [], h) r := by
  have e1 : p_mul (h.1 a0 1) 3 = ((3 * N : Nat) : Int) := by rw [hN, p_mul_eq (by omega)]; omega
  have hn : (m_sr (m_new h 1 (3 * N) (3 * N)) a0 4 (some (1, 3 * N, m_sz h))).1 a0 1 = (N : Int) := by
    show (up1 h.1 (m_sz h) (fun _ => 0)) a0 1 = _
    rw [up1_o _ hm]; exact hN
  have e2 : p_mul (p_mul ((m_sr (m_new h 1 (3 * N) (3 * N)) a0 4 (some (1, 3 * N, m_sz h))).1 a0 1) 3) 16 = ((48 * N : Nat) : Int) := by rw [hn, p_mul_eq (x := (N : Int)) (by omega), p_mul_eq (by omega)]; omega
  refine s_aload_n rfl rfl rfl (s_aload_n rfl rfl rfl (s_getI rfl rfl rfl (s_iconst rfl rfl (s_imul rfl ?_))))
  rw [e1]
  refine s_newa (n := 3 * N) rfl (Or.inr (Or.inl ⟨rfl, rfl⟩)) (by omega) (s_putR rfl rfl rfl (s_aload_n rfl rfl rfl (s_aload_n rfl rfl rfl (s_getI rfl rfl rfl (s_iconst rfl rfl (s_imul rfl (s_bipush rfl rfl (s_imul rfl ?_))))))))
  rw [e2]
  exact s_newa (n := 48 * N) rfl (Or.inr (Or.inl ⟨rfl, rfl⟩)) (by omega) (s_putR rfl rfl rfl (s_iconst rfl rfl (s_istore_n [some (vR (some (16, 0, a0))), some (vI x1), some (vI 0), none] rfl rfl k)))
theorem clL_N {q : Nat} (hr : q = 5 ∨ q = 6 ∨ q = 7) : clL q = (clN q).map (fun m : Nat => (m : Int)) := by
  rcases hr with h | h | h <;> rw [h] <;> rfl
/-- a ring of q places, as it is made at number a -/
def rngO (I : Nat → Nat → Int) (S : PS) (a q : Nat) : Prop := LyX6 S a ∧ I a 0 = (q : Int) ∧ I a 1 = (lnC q : Int) ∧ rc S a = lnC q ∧ (∀ i, i < lnC q → I (a + 1) i = (cdN q i : Int)) ∧ rgT q (I (a + 3)) (I (a + 4)) I ∧ ∀ i, I (a + 4) i < 91
/-- its tables so far -/
def rngT (X : Nat → Nat → Int) (a q k : Nat) : Prop := (∀ c z : Nat, c < lnC q → z < 3 → 3 * c + z < k → X (a + 3) (3 * c + z) = (rcN q (cdN q c) z : Int) ∧ ∀ s : Nat, s < swM (rcN q (cdN q c) z) → X (a + 4) (16 * (3 * c + z) + s) = ixG (q : Int) (tgN q (cdN q c) z (4 * s))) ∧ ∀ i, X (a + 4) i < 91
theorem ri_loop {a q : Nat} {x1 : Int} (hq : q = 5 ∨ q = 6 ∨ q = 7) (hl : LyX6 S a) (hrc : rc S a = lnC q) : ∀ (t c : Nat) (X : Nat → Nat → Int), c + t = lnC q → X a 0 = (q : Int) → X a 1 = (lnC q : Int) → (∀ i, i < lnC q → X (a + 1) i = (cdN q i : Int)) → rngT X a q (3 * c) → ∃ J, Ev (d + 2) mX6_init (66, [some (vR (some (16, 0, a))), some (vI x1), some (vI (c : Int)), none], [], (X, S)) (.inl none, (J, S)) ∧ (∀ b, b ≠ a + 2 → b ≠ a + 3 → b ≠ a + 4 → J b = X b) ∧ rngT J a q (3 * lnC q) := by
  have hln := ln_le hq
  intro t
  induction t with
  | zero =>
    intro c X hc h0 h1 hcd hT
    obtain rfl : c = lnC q := by omega
    exact ⟨X, b_X6_init_66 (fun _ => b_X6_init_99) (fun w => absurd (show X a 1 ≤ (lnC q : Int) by omega) (by show ¬(X a 1 ≤ (lnC q : Int)); exact Int.not_le.mpr w)), fun _ _ _ _ => rfl, hT⟩
  | succ t ih =>
    intro c X hc h0 h1 hcd hT
    have inner : ∀ (u z : Nat) (Y : Nat → Nat → Int), z + u = 3 → (∀ b, b ≠ a + 2 → b ≠ a + 3 → b ≠ a + 4 → Y b = X b) → rngT Y a q (3 * c + z) → ∃ J, Ev (d + 2) mX6_init (76, [some (vR (some (16, 0, a))), some (vI x1), some (vI (c : Int)), some (vI (z : Int))], [], (Y, S)) (.inl none, (J, S)) ∧ (∀ b, b ≠ a + 2 → b ≠ a + 3 → b ≠ a + 4 → J b = X b) ∧ rngT J a q (3 * lnC q) := by
      intro u
      induction u with
      | zero =>
        intro z Y hz hY hT'
        obtain rfl : z = 3 := by omega
        have ya := hY a (by omega) (by omega) (by omega)
        have ya1 := hY (a + 1) (by omega) (by omega) (by omega)
        obtain ⟨J, j1, j2, j3⟩ := ih (c + 1) Y (by omega) (by rw [ya]; exact h0) (by rw [ya]; exact h1) (by rw [ya1]; exact hcd) hT'
        exact ⟨J, b_X6_init_76 (fun _ => b_X6_init_93 (by omega) j1) (fun w => absurd w (by decide)), fun b b1 b2 b3 => by rw [j2 b b1 b2 b3]; exact hY b b1 b2 b3, j3⟩
      | succ u ihu =>
        intro z Y hz hY hT'
        have ya := hY a (by omega) (by omega) (by omega)
        have ya1 := hY (a + 1) (by omega) (by omega) (by omega)
        obtain ⟨Z, c1, c2, c3, c4, c5, c6⟩ := tb_C (d := d) (c := c) (q := z) hl hq (by rw [ya]; exact h0) (by rw [ya]; exact h1) (by rw [ya1]; exact hcd) hrc (by omega) (by omega) hT'.2
        obtain ⟨J, j1, j2, j3⟩ := ihu (z + 1) Z (by omega) (fun b b1 b2 b3 => by rw [c2 b b1 b2 b3]; exact hY b b1 b2 b3) ⟨fun c' z' hc' hz' hk => by
          by_cases e : 3 * c' + z' = 3 * c + z
          · obtain rfl : c' = c := by omega
            obtain rfl : z' = z := by omega
            exact ⟨by rw [c3, up1_same], c4⟩
          · obtain ⟨g1, g2⟩ := hT'.1 c' z' hc' hz' (by omega)
            exact ⟨by rw [c3, up1_o _ e]; exact g1, fun s hs => by
              have hsw : swM (rcN q (cdN q c') z') ≤ 16 := by
                rcases rc_cases hq (cd_mem hc') hz' with h | h | h | h <;> rw [h] <;> decide
              rw [c5 _ (by omega)]; exact g2 s hs⟩, c6⟩
        exact ⟨J, b_X6_init_76 (fun w => absurd w (by omega)) (fun _ => b_X6_init_81 c1 (b_X6_init_87 (by omega) j1)), j2, j3⟩
    obtain ⟨J, j1, j2, j3⟩ := inner 3 0 X rfl (fun _ _ _ _ => rfl) hT
    exact ⟨J, b_X6_init_66 (fun w => absurd (show (lnC q : Int) ≤ (c : Int) from h1 ▸ w) (by omega)) (fun _ => b_X6_init_74 j1), j2, j3⟩
theorem ri_C {a q : Nat} (hq : q = 5 ∨ q = 6 ∨ q = 7) (hnx : S.2.2.1 = a + 1) (ha : 31 ≤ a) (hsw : ∀ no j : Nat, 1 ≤ no → no < 4 → I no j = (swE no j : Int)) : ∃ J S', Ca (d + 9) mX6_init [vR (some (16, 0, a)), vI (q : Int)] (I, S) (.inl none) (J, S') ∧ rngO J S' a q ∧ (∀ b, b < a → J b = I b ∧ S'.1 b = S.1 b ∧ S'.2.1 b = S.2.1 b) ∧ S'.2.2.1 = a + 5 ∧ S'.2.2.2.1 = S.2.2.2.1 + 4 ∧ S'.2.2.2.2 = S.2.2.2.2 + (98 + 51 * lnC q) := by
  have hln := ln_le hq
  obtain ⟨s1, s2, nx, ce, sl⟩ := S
  simp only at hnx
  subst hnx
  obtain ⟨S1, hS1⟩ : ∃ S1 : PS, S1 = (up2 (up1 (up2 (up1 s1 (a + 1) (fun _ => none)) a 2 (some (0, 91, a + 1))) (a + 2) (fun _ => none)) a 3 (some (0, 7, a + 2)), up1 (up1 s2 (a + 1) (0, 91)) (a + 2) (0, 7), a + 3, ce + 2, sl + 91 + 7) := ⟨_, rfl⟩
  obtain ⟨I1, hI1⟩ : ∃ I1 : Nat → Nat → Int, I1 = up2 (up1 (up1 (up2 I a 1 0) (a + 1) (fun _ => 0)) (a + 2) (fun _ => 0)) a 0 (q : Int) := ⟨_, rfl⟩
  have l1 : LyG6 S1 a := by
    rw [hS1]
    show (up2 (up1 (up2 (up1 s1 (a + 1) (fun _ => none)) a 2 (some (0, 91, a + 1))) (a + 2) (fun _ => none)) a 3 (some (0, 7, a + 2))) a 2 = _
    rw [up2_k _ (by decide), up1_o _ (by omega), up2_same]
  have i0 : I1 a 0 = (q : Int) := by rw [hI1, up2_same]
  have i1 : I1 a 1 = ((0 : Nat) : Int) := by rw [hI1, up2_k _ (by decide), up1_o _ (by omega), up1_o _ (by omega), up2_same]; rfl
  have hlen : (grS (q - 1) 0 1).length = lnC q := by rw [gr_cl hq, clL_N hq, List.length_map]; rfl
  obtain ⟨J1, g1, g2⟩ := gr_G (r := q) l1 (by omega) (q - 1) 1 (6 + d) 0 0 1 I1 (by omega) (by omega) (by omega) i0 i1 (by omega)
  rw [gr_cl hq, clL_N hq] at g2
  obtain ⟨o1, o2, o3, o4, o5⟩ := g2
  rw [List.length_map] at o3 o5
  have jN : J1 a 1 = (lnC q : Int) := by rw [o3]; show ((0 : Nat) : Int) + (lnC q : Int) = _; omega
  obtain ⟨S2, hS2⟩ : ∃ S2 : PS, S2 = (up2 (up1 (up2 (up1 S1.1 (a + 3) (fun _ => none)) a 4 (some (1, 3 * lnC q, a + 3))) (a + 4) (fun _ => none)) a 5 (some (1, 48 * lnC q, a + 4)), up1 (up1 S1.2.1 (a + 3) (1, 3 * lnC q)) (a + 4) (1, 48 * lnC q), a + 5, ce + 4, sl + 91 + 7 + 3 * lnC q + 48 * lnC q) := ⟨_, rfl⟩
  obtain ⟨J2, hJ2⟩ : ∃ J2 : Nat → Nat → Int, J2 = up1 (up1 J1 (a + 3) (fun _ => 0)) (a + 4) (fun _ => 0) := ⟨_, rfl⟩
  have j2 : ∀ b, b ≠ a + 3 → b ≠ a + 4 → J2 b = J1 b := fun b h1 h2 => by rw [hJ2, up1_o _ h2, up1_o _ h1]
  have hr2 : rc S2 a = lnC q := by
    unfold rc
    rw [hS2]
    show (up1 (up1 S1.2.1 (a + 3) (1, 3 * lnC q)) (a + 4) (1, 48 * lnC q) (a + 3)).2 / 3 = _
    rw [up1_o _ (by omega), up1_same]
    show 3 * lnC q / 3 = lnC q
    omega
  have l2 : LyX6 S2 a := by
    unfold LyX6
    rw [hr2, hS2]
    show up2 (up1 (up2 (up1 S1.1 (a + 3) (fun _ => none)) a 4 (some (1, 3 * lnC q, a + 3))) (a + 4) (fun _ => none)) a 5 (some (1, 48 * lnC q, a + 4)) a 2 = _ ∧ up2 (up1 (up2 (up1 S1.1 (a + 3) (fun _ => none)) a 4 (some (1, 3 * lnC q, a + 3))) (a + 4) (fun _ => none)) a 5 (some (1, 48 * lnC q, a + 4)) a 3 = _ ∧ up2 (up1 (up2 (up1 S1.1 (a + 3) (fun _ => none)) a 4 (some (1, 3 * lnC q, a + 3))) (a + 4) (fun _ => none)) a 5 (some (1, 48 * lnC q, a + 4)) a 4 = _ ∧ up2 (up1 (up2 (up1 S1.1 (a + 3) (fun _ => none)) a 4 (some (1, 3 * lnC q, a + 3))) (a + 4) (fun _ => none)) a 5 (some (1, 48 * lnC q, a + 4)) a 5 = _
    refine ⟨?_, ?_, ?_, up2_same _ _ _ _⟩
    · rw [up2_k _ (by decide), up1_o _ (by omega), up2_k _ (by decide), up1_o _ (by omega)]; exact l1
    · rw [up2_k _ (by decide), up1_o _ (by omega), up2_k _ (by decide), up1_o _ (by omega), hS1]
      show up2 (up1 (up2 (up1 s1 (a + 1) (fun _ => none)) a 2 (some (0, 91, a + 1))) (a + 2) (fun _ => none)) a 3 (some (0, 7, a + 2)) a 3 = _
      exact up2_same _ _ _ _
    · rw [up2_k _ (by decide), up1_o _ (by omega), up2_same]
  have cd2 : ∀ i, i < lnC q → J2 (a + 1) i = (cdN q i : Int) := fun i hi => by
    rw [j2 (a + 1) (by omega) (by omega)]
    have h := o5 i hi
    rw [List.getElem?_map] at h
    have h2 : (clN q)[i]? = some (cdN q i) := by
      unfold cdN
      have hi' : i < (clN q).length := hi
      rw [List.getElem?_eq_getElem hi', List.getD_eq_getElem?_getD, List.getElem?_eq_getElem hi']
      rfl
    rw [h2] at h
    have h3 : some ((cdN q i : Nat) : Int) = some (J1 (a + 1) (0 + i)) := h
    rw [Nat.zero_add] at h3
    exact (Option.some.inj h3).symm
  have z4 : ∀ i, J2 (a + 4) i = 0 := fun i => by rw [hJ2, up1_same]
  obtain ⟨J, k1, k2, k3⟩ := ri_loop (d := 6 + d) (x1 := (q : Int)) hq l2 hr2 (lnC q) 0 J2 (by omega) (by rw [j2 a (by omega) (by omega), o2 0 (by decide)]; exact i0) (by rw [j2 a (by omega) (by omega)]; exact jN) cd2 ⟨fun c z _ _ h => absurd h (by omega), fun i => by rw [z4]; decide⟩
  have kb : ∀ b, b < a → J b = I b := fun b hb => by
    rw [k2 b (by omega) (by omega) (by omega), j2 b (by omega) (by omega), o1 b (by omega) (by omega), hI1]
    funext j
    rw [up2_a _ (by omega), up1_o _ (by omega), up1_o _ (by omega), up2_a _ (by omega)]
  refine ⟨J, S2, ?_, ⟨l2, ?_, ?_, hr2, ?_, ⟨fun no j h1 h2 => ?_, fun c z hc hz => ?_⟩, k3.2⟩, fun b hb => ⟨kb b hb, ?_, ?_⟩, ?_, ?_, ?_⟩
  · have e8 : 6 + d + 2 = d + 8 := by omega
    have e9 : 6 + d + 1 + 1 = d + 8 := by omega
    refine Ca.of rfl rfl ?_
    refine b_X6_init_0 (d := d + 8) (h1 := (J1, S1)) ?_ ?_
    · have g1' : Ca (d + 8) mX6_grow [vR (some (16, 0, a)), vI 1, vI 0, vI 1] (I1, S1) (.inl none) (J1, S1) := Ca.deep g1 (by omega)
      rw [hI1, hS1] at g1'
      rw [hS1]
      exact g1'
    · refine b_X6_init_37 (h := (J1, S1)) jN (by omega) (by rw [hS1]; show a ≠ a + 3; omega) ?_
      have k1' : Ev (d + 9) mX6_init (66, [some (vR (some (16, 0, a))), some (vI (q : Int)), some (vI 0), none], [], (J2, S2)) (.inl none, (J, S2)) := Ev.deep k1 (by omega)
      rw [hJ2, hS2] at k1'
      rw [hS2]
      rw [hS1] at k1' ⊢
      exact k1'
  · rw [k2 a (by omega) (by omega) (by omega), j2 a (by omega) (by omega), o2 0 (by decide)]; exact i0
  · rw [k2 a (by omega) (by omega) (by omega), j2 a (by omega) (by omega)]; exact jN
  · rw [k2 (a + 1) (by omega) (by omega) (by omega)]; exact cd2
  · rw [kb no (by omega)]; exact hsw no j h1 h2
  · exact k3.1 c z hc hz (by omega)
  · rw [hS2]
    show up2 (up1 (up2 (up1 S1.1 (a + 3) (fun _ => none)) a 4 (some (1, 3 * lnC q, a + 3))) (a + 4) (fun _ => none)) a 5 (some (1, 48 * lnC q, a + 4)) b = s1 b
    rw [hS1]
    funext j
    rw [up2_a _ (by omega), up1_o _ (by omega), up2_a _ (by omega), up1_o _ (by omega)]
    show up2 (up1 (up2 (up1 s1 (a + 1) (fun _ => none)) a 2 (some (0, 91, a + 1))) (a + 2) (fun _ => none)) a 3 (some (0, 7, a + 2)) b j = _
    rw [up2_a _ (by omega), up1_o _ (by omega), up2_a _ (by omega), up1_o _ (by omega)]
  · rw [hS2]
    show up1 (up1 S1.2.1 (a + 3) (1, 3 * lnC q)) (a + 4) (1, 48 * lnC q) b = s2 b
    rw [hS1, up1_o _ (by omega), up1_o _ (by omega)]
    show up1 (up1 s2 (a + 1) (0, 91)) (a + 2) (0, 7) b = _
    rw [up1_o _ (by omega), up1_o _ (by omega)]
  · rw [hS2]
  · rw [hS2]
  · rw [hS2]; show sl + 91 + 7 + 3 * lnC q + 48 * lnC q = sl + (98 + 51 * lnC q); omega
end
end
