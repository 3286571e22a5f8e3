/-! ===== notes: note, forget ===== -/
noncomputable section
section
variable {d : Nat} {I J K X Y Z : Nat → Nat → Int} {S S' : PS} {c T U n P R N p r s : Nat} {kd pl vl : Int} {mc mr : Nat × Nat} {ec : Nat → Int} {av : List PV}
/-- behind a note: state's notes alone change -/
theorem nte_IV (h : IV c T U n P R N I S) (k : ∀ a, a ≠ 191 → a ≠ 126 → a ≠ 133 → a ≠ 134 → a ≠ 156 → a ≠ 187 → K a = I a) (k2 : K 126 2 = I 126 2) (k6 : ∀ j, j ≠ 0 → j ≠ 56 → K 156 j = I 156 j) {m : Nat} (hm : m ≤ 8) (m2 : K 126 6 = (m : Int)) (m3 : K 156 56 = (m : Int)) (m4 : ∀ i, i < m → (K 133 i = K 187 (2 * i) ∧ 0 ≤ K 187 (2 * i) ∧ K 187 (2 * i) < (N : Int)) ∧ K 134 i = K 187 (2 * i + 1) ∧ -999 ≤ K 187 (2 * i + 1) ∧ K 187 (2 * i + 1) ≤ 999) : IV (c + 1) T U n P R N K S := by
  have hT := (IV_L h).2.2
  refine IV_m h ⟨fun a h1 h2 h3 h4 h5 => k a (by unfold scr at h2; omega) (by unfold mutQ at h4; omega) (by unfold mutQ at h4; omega) (by unfold mutQ at h4; omega) h3 (by unfold mutQ at h4; omega), fun j hj _ h56 => k6 j (by unfold cr at hj; omega) h56, fun a ha => k a (by omega) (by omega) (by omega) (by omega) (by omega) (by omega)⟩ (k 122 (by decide) (by decide) (by decide) (by decide) (by decide) (by decide)) (k 123 (by decide) (by decide) (by decide) (by decide) (by decide) (by decide)) ?_ ?_
  · have hF := iF_c h.2.2.1 (show c ≤ c + 1 by omega)
    unfold iF at hF ⊢
    rw [k 31 (by decide) (by decide) (by decide) (by decide) (by decide) (by decide), k6 4 (by decide) (by decide), k 155 (by decide) (by decide) (by decide) (by decide) (by decide) (by decide), k 158 (by decide) (by decide) (by decide) (by decide) (by decide) (by decide)]
    exact hF
  · obtain ⟨h1, h2, ⟨a, a1, a2, a3, a4⟩, _⟩ := IV_A h
    have kk : ∀ a, 127 ≤ a → a ≤ 132 → K a = I a := fun a b1 b2 => k a (by omega) (by omega) (by omega) (by omega) (by omega) (by omega)
    have r := k 178 (by decide) (by decide) (by decide) (by decide) (by decide) (by decide)
    refine ⟨by rw [kk 128 (by decide) (by decide), r]; exact h1, fun r' hr => by rw [kk 129 (by decide) (by decide), r]; exact h2 r' hr, ⟨a, a1, by rw [k2]; exact a2, by rw [k6 41 (by decide) (by decide)]; exact a3, fun j hj => ?_⟩, m, hm, m2, m3, m4⟩
    rw [kk 130 (by decide) (by decide), kk 131 (by decide) (by decide), kk 132 (by decide) (by decide), r, k 179 (by decide) (by decide) (by decide) (by decide) (by decide) (by decide)]
    exact a4 j hj
theorem pu_note {x1 x2 : Int} (h : IV c T U n P R N I S) (hcc : c ≤ 1000000) : outC c mX11_note mX12_note ecI [vI x1, vI x2] I S := by
  obtain ⟨l1, l2, hT⟩ := IV_L h
  obtain ⟨⟨b1, b2, b3⟩, ⟨e1, e2, e3⟩, f1, f2, f3⟩ := fc_IV h
  obtain ⟨_, ⟨m1, m2, m3⟩, g1, _⟩ := fm_IV h
  have hrf := refd_in h hcc 2 (by decide)
  obtain ⟨_, _, _, m, n1, n2, n3, n4⟩ := IV_A h
  have mm : ∀ (Y : Nat → Nat → Int) (S' : PS), LyX12 S' → Y 156 = I 156 → Y 158 = I 158 → Ca 2 mX12_note [vR (some (22, 0, 156)), vI x1, vI x2] (Y, S') _ _ := fun Y S' l2' y6 y8 => by
    have hm := c_X12_note (d := 0) (I := Y) (S := S') (x1 := x1) (x2 := x2) l2' (v1 := fun _ _ => by rw [y8]; omega) (v2 := fun _ q _ => by rw [y6] at q ⊢; omega) (v3 := fun _ q _ => by rw [y6] at q ⊢; omega) (v4 := fun _ q _ => by rw [y6] at q ⊢; omega) (v5 := fun _ q _ => by rw [y6] at q ⊢; omega) (v6 := fun _ q _ => by rw [y6] at q ⊢; omega) (v7 := fun _ _ _ => by rw [y8]; omega)
    rw [y6, m3, n3] at hm
    exact hm
  have hc := c_X11_note (d := 0) (I := I) (S := S) (x1 := x1) (x2 := x2) l1 (v1 := fun _ _ => by omega) (v2 := fun _ _ _ => by omega) (v3 := fun _ _ _ _ _ => by omega) (v4 := fun _ _ _ _ _ => by omega) (v5 := fun _ _ _ _ => by omega)
  rw [e3, n2] at hc
  by_cases w : 0 ≤ x1 ∧ x1 < (N : Int)
  · simp only [if_pos w] at hc
    have bad : Ca 1 mX11_note [vR (some (21, 0, 31)), vI x1, vI x2] (I, S) (.inl (some (vI (-1)))) (up2 I 155 2 (I 155 2 + 1), S) → ¬(m < 8 ∧ -999 ≤ x2 ∧ x2 ≤ 999) → outC c mX11_note mX12_note ecI [vI x1, vI x2] I S := fun hc w2 => by
      refine mk_mut (T := T) (U := U) (n := n) (P := P) (R := R) (N := N) (Ca.deep hc (by omega)) (fun Y hYJ => ?_)
      have yk : ∀ a, a ≠ 191 → a ≠ 155 → Y a = I a := fun a h1 h2 => by
        rw [hYJ a h1]
        exact funext (fun j => up2_a _ h2)
      have hm := mm Y S l2 (yk 156 (by decide) (by decide)) (yk 158 (by decide) (by decide))
      simp only [if_pos w] at hm
      by_cases q : (m : Int) = 8
      · simp only [if_pos q] at hm
        exact ⟨_, Ca.deep hm (by omega), by rw [up2_a _ (by decide), up2_same], funext (fun j => by rw [up2_a _ (by decide), up2_a _ (by decide)]), yk 0 (by decide) (by decide), rfs_ok h (by decide) hYJ⟩
      · simp only [if_neg q, if_neg (show ¬(-999 ≤ x2 ∧ x2 ≤ 999) by omega)] at hm
        exact ⟨_, Ca.deep hm (by omega), by rw [up2_a _ (by decide), up2_same], funext (fun j => by rw [up2_a _ (by decide), up2_a _ (by decide)]), yk 0 (by decide) (by decide), rfs_ok h (by decide) hYJ⟩
    by_cases w1 : 8 ≤ (m : Int)
    · simp only [if_pos w1] at hc
      exact bad hc (by omega)
    simp only [if_neg w1] at hc
    by_cases w2 : x2 < -999
    · simp only [if_pos w2] at hc
      exact bad hc (by omega)
    simp only [if_neg w2] at hc
    by_cases w3 : x2 ≤ 999
    · simp only [if_pos w3] at hc
      rw [up2_same, Int.toNat_natCast] at hc
      refine mk_mut (T := T) (U := U) (n := n) (P := P) (R := R) (N := N) (Ca.deep hc (by omega)) (fun Y hYJ => ?_)
      have yk : ∀ a, a ≠ 191 → a ≠ 126 → a ≠ 133 → a ≠ 134 → Y a = I a := fun a h1 h2 h3 h4 => by
        rw [hYJ a h1]
        exact funext (fun j => by rw [up2_a _ h2, up2_a _ h4, up2_a _ h3])
      have y156 := yk 156 (by decide) (by decide) (by decide) (by decide)
      have y187 := yk 187 (by decide) (by decide) (by decide) (by decide)
      have hm := mm Y S l2 y156 (yk 158 (by decide) (by decide) (by decide) (by decide))
      simp only [if_pos w, if_neg (show ¬((m : Int) = 8) by omega), if_pos (show -999 ≤ x2 ∧ x2 ≤ 999 by omega)] at hm
      rw [show (2 * (m : Int)).toNat = 2 * m by omega, show (2 * (m : Int) + 1).toNat = 2 * m + 1 by omega] at hm
      refine ⟨_, Ca.deep hm (by omega), by rw [up2_k _ (by decide), up2_a _ (by decide), up2_a _ (by decide), up2_same], funext (fun j => by rw [up2_a _ (by decide), up2_a _ (by decide), up2_a _ (by decide), up2_a _ (by decide)]), yk 0 (by decide) (by decide) (by decide) (by decide), ?_⟩
      refine nte_IV (m := m + 1) h (fun a h1 h2 h3 h4 h5 h6 => ?_) ?_ (fun j h0 h56 => ?_) (by omega) ?_ ?_ (fun i hi => ?_)
      · exact funext (fun j => by rw [up2_a _ h5, up2_a _ h6, up2_a _ h6, up2_a _ h5, yk a h1 h2 h3 h4])
      · rw [up2_a _ (by decide), up2_a _ (by decide), up2_a _ (by decide), up2_a _ (by decide), hYJ 126 (by decide), up2_k _ (by decide), up2_a _ (by decide), up2_a _ (by decide)]
      · rw [up2_k _ h56, up2_a _ (by decide), up2_a _ (by decide), up2_k _ h0, y156]
      · rw [up2_a _ (by decide), up2_a _ (by decide), up2_a _ (by decide), up2_a _ (by decide), hYJ 126 (by decide), up2_same]; rfl
      · rw [up2_same]; rfl
      · rw [up2_a _ (show (133 : Nat) ≠ 156 by decide), up2_a _ (show (133 : Nat) ≠ 187 by decide), up2_a _ (show (133 : Nat) ≠ 187 by decide), up2_a _ (show (133 : Nat) ≠ 156 by decide), hYJ 133 (by decide), up2_a _ (show (133 : Nat) ≠ 126 by decide), up2_a _ (show (133 : Nat) ≠ 134 by decide), up2_a _ (show (134 : Nat) ≠ 156 by decide), up2_a _ (show (134 : Nat) ≠ 187 by decide), up2_a _ (show (134 : Nat) ≠ 187 by decide), up2_a _ (show (134 : Nat) ≠ 156 by decide), hYJ 134 (by decide), up2_a _ (show (134 : Nat) ≠ 126 by decide), up2_a _ (show (187 : Nat) ≠ 156 by decide), up2_a _ (show (187 : Nat) ≠ 156 by decide)]
        by_cases e : i = m
        · subst e
          rw [up2_same, up2_same, up2_k _ (show 2 * i ≠ 2 * i + 1 by omega), up2_same, up2_same]
          omega
        · have g := n4 i (by omega)
          rw [up2_k _ e, up2_k _ (show 2 * i ≠ 2 * m + 1 by omega), up2_k _ (show 2 * i ≠ 2 * m by omega), up2_k _ (show 2 * i + 1 ≠ 2 * m + 1 by omega), up2_k _ (show 2 * i + 1 ≠ 2 * m by omega), up2_a _ (show (187 : Nat) ≠ 156 by decide), up2_a _ (show (187 : Nat) ≠ 156 by decide), y187, up2_k _ e, up2_a _ (show (134 : Nat) ≠ 133 by decide)]
          exact g
    · simp only [if_neg w3] at hc
      exact bad hc (by omega)
  · simp only [if_neg w] at hc
    refine mk_thr0 h (ec := ecI) (by decide) (Ca.deep hc (by omega)) fR_refl (fun Y hY hYJ => ?_)
    have hm := mm Y (exS S) (IV_L hY).2.1 (hYJ 156 (by decide)) (hYJ 158 (by decide))
    simp only [if_neg w] at hm
    exact ⟨_, _, Ca.deep hm (by omega), up2_same _ _ _ _, fR_00⟩
end
end
