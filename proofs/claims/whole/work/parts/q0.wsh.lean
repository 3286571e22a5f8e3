/-! ===== calls that change the state: wash, tune ===== -/
noncomputable section
section
variable {d : Nat} {I J K X Y Z : Nat → Nat → Int} {S S' : PS} {c T U n P R N A p r s : Nat} {kd pl vl : Int} {mc mr : Nat × Nat} {ec : Nat → Int} {av : List PV}
theorem mk_mut {v : Int} (hc : Ca 60 mc (vR (some (21, 0, 31)) :: av) (I, S) (.inl (some (vI v))) (J, S)) (hm : ∀ Y, (∀ a, a ≠ 191 → Y a = J a) → ∃ K, Ca 60 mr (vR (some (22, 0, 156)) :: av) (Y, S) (.inl (some (vI v))) (K, S) ∧ K 156 0 = 0 ∧ K 191 = Y 191 ∧ Y 0 = I 0 ∧ IV (c + 1) T U n P R N K S) : outC c mc mr ec av I S :=
  ⟨0, v, J, S, Or.inl ⟨rfl, hc⟩, fun Y hY => by
    obtain ⟨K, k1, k2, k3, k5, k4⟩ := hm Y hY
    exact ⟨k5, v, K, k1, k2, fun _ => rfl, k3, T, U, n, P, R, N, k4⟩⟩
theorem kp_191 {i : Nat} {w : Int} : (up2 (kpI (up2 Y 156 0 0)) 178 i w) 191 = Y 191 := by
  have e : (kpI (up2 Y 156 0 0)) 191 = Y 191 := (kpI_o (by decide) (by decide)).trans (funext (fun j => up2_a _ (by decide)))
  rw [← e]
  exact funext (fun j => up2_a _ (by decide))
theorem kp_191b {row : Nat → Int} : (up1 (kpI (up2 Y 156 0 0)) 178 row) 191 = Y 191 := by
  rw [up1_o _ (by decide)]
  exact (kpI_o (by decide) (by decide)).trans (funext (fun j => up2_a _ (by decide)))
theorem un_191 : unI Y 191 = Y 191 := by
  unfold unI
  split
  · exact funext (fun j => up2_a _ (by decide))
  · rw [up1_o _ (by decide)]
    exact funext (fun j => by rw [up2_a _ (by decide), up2_a _ (by decide)])
/-- what a refusal changes -/
theorem rfs_ok (h : IV c T U n P R N I S) {j : Nat} (hj : j < 3) (hY : ∀ a, a ≠ 191 → Y a = up2 I 155 j (I 155 j + 1) a) : IV (c + 1) T U n P R N (up2 (up2 Y 156 0 0) 158 j (Y 158 j + 1)) S := by
  have hT := (IV_L h).2.2
  have k : ∀ a, a ≠ 191 → a ≠ 155 → a ≠ 156 → a ≠ 158 → (up2 (up2 Y 156 0 0) 158 j (Y 158 j + 1)) a = I a := fun a h1 h2 h3 h4 => by
    funext i
    rw [up2_a _ h4, up2_a _ h3, hY a h1, up2_a _ h2]
  have y156 : Y 156 = I 156 := by rw [hY 156 (by decide)]; exact funext (fun i => up2_a _ (by decide))
  have y158 : Y 158 = I 158 := by rw [hY 158 (by decide)]; exact funext (fun i => up2_a _ (by decide))
  have k6 : ∀ i, i ≠ 0 → (up2 (up2 Y 156 0 0) 158 j (Y 158 j + 1)) 156 i = I 156 i := fun i hi => by rw [up2_a _ (by decide), up2_k _ hi, y156]
  have hF := h.2.2.1
  refine IV_m h ⟨fun a h1 h2 h3 h4 h5 => k a (by unfold scr at h2; omega) (by unfold mutQ at h4; omega) h3 (by unfold mutQ at h4; omega), fun i hi _ _ => k6 i (by unfold cr at hi; omega), fun a ha => k a (by omega) (by omega) (by omega) (by omega)⟩ (k 122 (by decide) (by decide) (by decide) (by decide)) (k 123 (by decide) (by decide) (by decide) (by decide)) ⟨?_, fun i hi => ?_⟩ ?_
  · rw [k 31 (by decide) (by decide) (by decide) (by decide), k6 4 (by decide)]
    exact hF.1
  · have := hF.2 i hi
    by_cases e : i = j
    · subst e
      rw [up2_same, up2_a _ (show (155 : Nat) ≠ 158 by decide), up2_a _ (show (155 : Nat) ≠ 156 by decide), hY 155 (by decide), up2_same, y158]
      omega
    · rw [up2_a _ (show (155 : Nat) ≠ 158 by decide), up2_a _ (show (155 : Nat) ≠ 156 by decide), hY 155 (by decide), up2_k _ e, up2_k _ e, up2_a _ (show (158 : Nat) ≠ 156 by decide), y158]
      omega
  · exact saR_of (IV_A h) (IV_S h).1 (IV_R h).1 ⟨by rw [k 126 (by decide) (by decide) (by decide) (by decide)], by rw [k 126 (by decide) (by decide) (by decide) (by decide)]⟩ (fun a a1 a2 => k a (by omega) (by omega) (by omega) (by omega)) (fun i _ => by rw [k 178 (by decide) (by decide) (by decide) (by decide)]) (k 179 (by decide) (by decide) (by decide) (by decide)) (k 187 (by decide) (by decide) (by decide) (by decide)) (k6 41 (by decide)) (k6 56 (by decide))
/-- behind an act of the paints or amounts -/
theorem act_IV (h : IV c T U n P R N I S) {w : Int} {i : Nat} (x2 : X 126 = I 126) (xo : ∀ a, a ≠ 128 → a ≠ 129 → X a = I a) (hY : ∀ a, a ≠ 191 → Y a = kaI X kd pl vl a) (hact : acU N R kd pl vl (up1 (I 178) i w) (I 178)) (hp : pnt (X 128) (up1 (I 178) i w) N) (hr : ∀ r, r < R → X 129 r = up1 (I 178) i w (12 + r) ∧ 1 ≤ up1 (I 178) i w (12 + r) ∧ up1 (I 178) i w (12 + r) ≤ 99) : IV (c + 1) T U n P R N (up2 (kpI (up2 Y 156 0 0)) 178 i w) S ∧ (up2 (kpI (up2 Y 156 0 0)) 178 i w) 156 0 = 0 := by
  have hT := (IV_L h).2.2
  have ky : ∀ a, a ≠ 191 → a ≠ 126 → ¬(128 ≤ a ∧ a ≤ 132) → Y a = I a := fun a h1 h2 h3 => by rw [hY a h1, kaI_o h2 (by omega), xo a (by omega) (by omega)]
  have k : ∀ a, a ≠ 191 → a ≠ 126 → ¬(128 ≤ a ∧ a ≤ 132) → a ≠ 156 → a ≠ 178 → a ≠ 179 → (up2 (kpI (up2 Y 156 0 0)) 178 i w) a = I a := fun a h1 h2 h3 h4 h5 h6 => by
    funext j
    rw [up2_a _ h5, kpI_o h6 h4, up2_a _ h4, ky a h1 h2 h3]
  have k6 : ∀ j, j ≠ 0 → j ≠ 41 → (up2 (kpI (up2 Y 156 0 0)) 178 i w) 156 j = I 156 j := fun j h0 hj => by
    rw [up2_a _ (by decide), kpI_156 hj, up2_k _ h0, ky 156 (by decide) (by decide) (by decide)]
  have k178 : (up2 (kpI (up2 Y 156 0 0)) 178 i w) 178 = up1 (I 178) i w := by
    funext j
    by_cases e : j = i
    · rw [e, up2_same, up1_same]
    · rw [up2_k _ e, up1_o _ e, kpI_o (by decide) (by decide), up2_a _ (by decide), ky 178 (by decide) (by decide) (by decide)]
  have kb : ∀ a, 126 ≤ a → a ≤ 134 → (up2 (kpI (up2 Y 156 0 0)) 178 i w) a = kaI X kd pl vl a := fun a h1 h2 => by
    funext j
    rw [up2_a _ (by omega), kpI_o (by omega) (by omega), up2_a _ (by omega), hY a (by omega)]
  refine ⟨IV_m h ⟨fun a h1 h2 h3 h4 h5 => k a (by unfold scr at h2; omega) (by unfold mutQ at h4; omega) (by unfold mutQ at h4; omega) h3 (by unfold mutQ at h4; omega) (by unfold mutQ at h4; omega), fun j hj h41 _ => k6 j (by unfold cr at hj; omega) h41, fun a ha => k a (by omega) (by omega) (by omega) (by omega) (by omega) (by omega)⟩ (k 122 (by decide) (by decide) (by decide) (by decide) (by decide) (by decide)) (k 123 (by decide) (by decide) (by decide) (by decide) (by decide) (by decide)) ?_ ?_, ?_⟩
  · have hF := iF_c h.2.2.1 (show c ≤ c + 1 by omega)
    unfold iF at hF ⊢
    rw [k 31 (by decide) (by decide) (by decide) (by decide) (by decide) (by decide), k6 4 (by decide) (by decide), k 155 (by decide) (by decide) (by decide) (by decide) (by decide) (by decide), k 158 (by decide) (by decide) (by decide) (by decide) (by decide) (by decide)]
    exact hF
  · refine act_ok (X := X) (Z := up2 Y 156 0 0) (kd := kd) (pl := pl) (vl := vl) (IV_A h) (IV_S h).1 (IV_R h).1 ?_ ?_ ?_ ?_ ?_ ?_ ?_ ?_ ?_ ?_ ?_ ?_ ?_ ?_ ?_ ?_ ?_
    · rw [up2_k _ (by decide), ky 156 (by decide) (by decide) (by decide)]
    · rw [← ky 179 (by decide) (by decide) (by decide)]; exact funext (fun j => up2_a _ (by decide))
    · rw [← ky 178 (by decide) (by decide) (by decide)]; exact funext (fun j => up2_a _ (by decide))
    · rw [x2]
    · exact fun a h1 h2 => xo a (by omega) (by omega)
    · rw [kb 126 (by decide) (by decide)]
    · exact fun a h1 h2 => kb a (by omega) (by omega)
    · exact funext (fun j => up2_a _ (by decide))
    · exact up2_a _ (by decide)
    · rw [k178]; exact hact
    · rw [k178, kb 128 (by decide) (by decide), kaI_o (by decide) (by decide)]; exact hp
    · intro r hr'
      rw [k178, kb 129 (by decide) (by decide), kaI_o (by decide) (by decide)]; exact hr r hr'
    · rw [kb 126 (by decide) (by decide), kaI_126 (by decide), x2]
    · rw [kb 133 (by decide) (by decide), kaI_o (by decide) (by decide)]; exact xo 133 (by decide) (by decide)
    · rw [kb 134 (by decide) (by decide), kaI_o (by decide) (by decide)]; exact xo 134 (by decide) (by decide)
    · exact k 187 (by decide) (by decide) (by decide) (by decide) (by decide) (by decide)
    · exact k6 56 (by decide) (by decide)
  · rw [up2_a _ (by decide), kpI_156 (by decide), up2_same]
theorem acts_in (h : IV c T U n P R N I S) : 0 ≤ I 126 2 ∧ I 126 2 ≤ 30 ∧ 0 ≤ I 156 41 ∧ I 156 41 ≤ 30 := by
  obtain ⟨_, _, ⟨a, a1, a2, a3, _⟩, _⟩ := IV_A h
  omega
theorem refd_in (h : IV c T U n P R N I S) (hcc : c ≤ 1000000) : ∀ j, j < 3 → (0 ≤ I 155 j ∧ I 155 j ≤ 1000000) ∧ 0 ≤ I 158 j ∧ I 158 j ≤ 1000000 := fun j hj => by
  have := h.2.2.1.2 j hj
  omega
theorem row_bd (h : IV c T U n P R N I S) (hs : s < N) : -1 ≤ I 178 s ∧ I 178 s ≤ 3 := (IV_A h).1.1.2 s hs
theorem pu_wash {x1 : Int} (h : IV c T U n P R N I S) (hcc : c ≤ 1000000) : outC c mX11_wash mX12_wash ecI [vI x1] I S := by
  obtain ⟨l1, l2, hT⟩ := IV_L h
  obtain ⟨⟨b1, b2, b3⟩, ⟨e1, e2, e3⟩, f1, f2, f3⟩ := fc_IV h
  obtain ⟨_, ⟨m1, m2, m3⟩, _⟩ := fm_IV h
  have hac := acts_in h
  have hrf := refd_in h hcc 1 (by decide)
  by_cases w : 0 ≤ x1 ∧ x1 < (N : Int)
  · obtain ⟨s, hs⟩ : ∃ s : Nat, x1 = (s : Int) := ⟨x1.toNat, by omega⟩
    have hsN : s < N := by omega
    subst hs
    have hp := (IV_A h).1
    have hcol : colO (I (127 + 1)) (s : Int) = I 178 s := pnt_col hp hsN
    have hrow := row_bd h hsN
    have hX : ∀ g : Int, (up2 I (127 + 1) g.toNat (p_and (I (127 + 1) g.toNat) (p_xor (p_shl 1 (s : Int)) (-1)))) 126 2 = I 126 2 := fun g => up2_a _ (by decide)
    have hc := c_X11_wash (d := 0) (I := I) (S := S) (x1 := (s : Int)) l1 (fun _ q => by rw [hcol] at q ⊢; omega) (fun _ _ q => by rw [hX] at q ⊢; omega) (v3 := fun _ _ q => by rw [hX] at q ⊢; omega) (v4 := fun _ _ => by omega)
    rw [e3, hcol] at hc
    simp only [if_pos w] at hc
    by_cases q : I 178 s ≠ -1
    · simp only [if_pos q] at hc
      obtain ⟨g, hg⟩ : ∃ g : Nat, I 178 s = (g : Int) := ⟨(I 178 s).toNat, by omega⟩
      have hg4 : g < 4 := by omega
      refine mk_mut (T := T) (U := U) (n := n) (P := P) (R := R) (N := N) (J := kaI (up2 I (127 + 1) (I 178 s).toNat (p_and (I (127 + 1) (I 178 s).toNat) (p_xor (p_shl 1 (s : Int)) (-1)))) 1 (s : Int) (I 178 s)) (Ca.deep hc (by omega)) (fun Y hYJ => ?_)
      have yk : ∀ a, a ≠ 191 → a ≠ 126 → ¬(128 ≤ a ∧ a ≤ 132) → Y a = I a := fun a h1 h2 h3 => by
        rw [hYJ a h1, kaI_o h2 (by omega)]
        exact funext (fun j => up2_a _ (by omega))
      have y156 := yk 156 (by decide) (by decide) (by decide)
      have y178 := yk 178 (by decide) (by decide) (by decide)
      have hm := c_X12_wash (d := 0) (I := Y) (S := S) (x1 := (s : Int)) l2 (fun _ => by omega) (fun _ _ => by rw [y156]; omega) (v3 := fun _ q' => absurd (by rw [← q', y178, Int.toNat_natCast]) q)
      rw [y156, m3, y178, Int.toNat_natCast] at hm
      simp only [if_pos w, if_pos q] at hm
      obtain ⟨k1, k2⟩ := act_IV (Y := Y) (X := up2 I (127 + 1) (I 178 s).toNat (p_and (I (127 + 1) (I 178 s).toNat) (p_xor (p_shl 1 (s : Int)) (-1)))) (kd := 1) (pl := (s : Int)) (vl := I 178 s) (w := -1) (i := s) h (funext (fun j => up2_a _ (by decide))) (fun a h1 h2 => funext (fun j => up2_a _ (by omega))) hYJ (Or.inr (Or.inl ⟨rfl, s, g, ⟨hsN, hg4⟩, ⟨rfl, hg⟩, up1_same _ _ _, fun i hi => by
          by_cases e : i = s
          · rw [e, up1_same]; exact hg
          · rw [up1_o _ e, up1_o _ e], fun j hj => (up1_o _ (by have := (IV_S h).1; omega)).symm⟩)) (by
          have := pnt_take hp hsN hg4 hg
          rw [up2_up1, up1_same, hg, Int.toNat_natCast]
          exact this) (fun r hr => by
          have g := (IV_A h).2.1 r hr
          have hN := (IV_S h).1
          rw [up1_o _ (show 12 + r ≠ s by omega), up2_a _ (by decide)]
          exact g)
      exact ⟨_, Ca.deep hm (by omega), k2, kp_191, yk 0 (by decide) (by decide) (by decide), k1⟩
    · simp only [if_neg q] at hc
      refine mk_mut (T := T) (U := U) (n := n) (P := P) (R := R) (N := N) (Ca.deep hc (by omega)) (fun Y hYJ => ?_)
      have yk : ∀ a, a ≠ 191 → a ≠ 155 → Y a = I a := fun a h1 h2 => by
        rw [hYJ a h1]
        exact funext (fun j => up2_a _ h2)
      have y156 := yk 156 (by decide) (by decide)
      have y178 := yk 178 (by decide) (by decide)
      have hm := c_X12_wash (d := 0) (I := Y) (S := S) (x1 := (s : Int)) l2 (fun _ => by omega) (fun _ _ => by rw [y156]; omega) (v3 := fun _ _ => by rw [yk 158 (by decide) (by decide)]; omega)
      rw [y156, m3, y178, Int.toNat_natCast] at hm
      simp only [if_pos w, if_neg q] at hm
      exact ⟨_, Ca.deep hm (by omega), by rw [up2_a _ (by decide), up2_same], funext (fun j => by rw [up2_a _ (by decide), up2_a _ (by decide)]), yk 0 (by decide) (by decide), rfs_ok h (by decide) hYJ⟩
  · have nw : ∀ {Q : Prop}, (0 ≤ x1 ∧ x1 < I T 6) → Q := fun q => absurd (show 0 ≤ x1 ∧ x1 < (N : Int) by omega) w
    have hc := c_X11_wash (d := 0) (I := I) (S := S) (x1 := x1) l1 (fun q _ => nw q) (fun q _ _ => nw q) (v3 := fun q _ _ => nw q) (v4 := fun q _ => nw q)
    rw [e3] at hc
    simp only [if_neg w] at hc
    refine mk_thr0 h (ec := ecI) (by decide) (Ca.deep hc (by omega)) fR_refl (fun Y hY hYJ => ?_)
    obtain ⟨_, ⟨m1, m2, m3⟩, g1, g2, g3⟩ := fm_IV hY
    have nm : ∀ {Q : Prop}, (0 ≤ x1 ∧ x1 < Y 156 15) → Q := fun q => absurd (show 0 ≤ x1 ∧ x1 < (N : Int) by omega) w
    have hm := c_X12_wash (d := 0) (I := Y) (S := exS S) (x1 := x1) (IV_L hY).2.1 (fun q => nm q) (fun q _ => nm q) (v3 := fun q _ => nm q)
    rw [m3] at hm
    simp only [if_neg w] at hm
    exact ⟨_, _, Ca.deep hm (by omega), up2_same _ _ _ _, fR_00⟩
theorem pu_tune {x1 x2 : Int} (h : IV c T U n P R N I S) (hcc : c ≤ 1000000) : outC c mX11_tune mX12_tune ecI [vI x1, vI x2] I S := by
  obtain ⟨l1, l2, hT⟩ := IV_L h
  obtain ⟨⟨b1, b2, b3⟩, ⟨e1, e2, e3⟩, f1, f2, f3⟩ := fc_IV h
  obtain ⟨_, ⟨m1, m2, m3⟩, _⟩ := fm_IV h
  have hac := acts_in h
  have hrf := refd_in h hcc 1 (by decide)
  by_cases w : 0 ≤ x1 ∧ x1 < (R : Int)
  · obtain ⟨r, hs⟩ : ∃ r : Nat, x1 = (r : Int) := ⟨x1.toNat, by omega⟩
    have hrR : r < R := by omega
    subst hs
    have ham := (IV_A h).2.1 r hrR
    have hc := c_X11_tune (d := 0) (I := I) (S := S) (x1 := (r : Int)) (x2 := x2) l1 (fun _ => by omega) (v2 := fun _ _ => by omega) (v3 := fun _ _ _ => by omega) (v4 := fun _ _ _ _ _ => by omega) (v5 := fun _ _ _ _ _ => by omega) (v6 := fun _ _ _ _ => by omega)
    rw [e2, Int.toNat_natCast] at hc
    simp only [if_pos w] at hc
    have bad : Ca 2 mX11_tune [vR (some (21, 0, 31)), vI (r : Int), vI x2] (I, S) (.inl (some (vI (-1)))) (up2 I 155 1 (I 155 1 + 1), S) → ¬((1 ≤ x2 ∧ x2 ≤ 99) ∧ x2 ≠ I 129 r) → outC c mX11_tune mX12_tune ecI [vI (r : Int), vI x2] I S := fun hc w2 => by
      refine mk_mut (T := T) (U := U) (n := n) (P := P) (R := R) (N := N) (Ca.deep hc (by omega)) (fun Y hYJ => ?_)
      have yk : ∀ a, a ≠ 191 → a ≠ 155 → Y a = I a := fun a h1 h2 => by
        rw [hYJ a h1]
        exact funext (fun j => up2_a _ h2)
      have y156 := yk 156 (by decide) (by decide)
      have y178 := yk 178 (by decide) (by decide)
      have y158 := yk 158 (by decide) (by decide)
      have hm := c_X12_tune (d := 0) (I := Y) (S := S) (x1 := (r : Int)) (x2 := x2) l2 (v1 := fun _ => by omega) (v2 := fun _ => by omega) (v3 := fun _ _ => by rw [y158]; omega) (v4 := fun _ _ _ => by rw [y156]; omega) (v5 := fun _ _ _ => by rw [y158]; omega)
      rw [y156, m2, y178, show (12 + (r : Int)).toNat = 12 + r by omega] at hm
      simp only [if_pos w] at hm
      by_cases w3 : 1 ≤ x2 ∧ x2 ≤ 99
      · have w4 : ¬(I 178 (12 + r) ≠ x2) := fun z => w2 ⟨w3, fun z2 => z (by rw [z2]; exact ham.1.symm)⟩
        simp only [if_neg (fun z => z w3 : ¬¬(1 ≤ x2 ∧ x2 ≤ 99)), if_neg w4] at hm
        exact ⟨_, Ca.deep hm (by omega), by rw [up2_a _ (by decide), up2_same], funext (fun j => by rw [up2_a _ (by decide), up2_a _ (by decide)]), yk 0 (by decide) (by decide), rfs_ok h (by decide) hYJ⟩
      · simp only [if_pos w3] at hm
        exact ⟨_, Ca.deep hm (by omega), by rw [up2_a _ (by decide), up2_same], funext (fun j => by rw [up2_a _ (by decide), up2_a _ (by decide)]), yk 0 (by decide) (by decide), rfs_ok h (by decide) hYJ⟩
    by_cases w1 : x2 < 1
    · simp only [if_pos w1] at hc
      exact bad hc (by omega)
    simp only [if_neg w1] at hc
    by_cases w2 : 99 < x2
    · simp only [if_pos w2] at hc
      exact bad hc (by omega)
    simp only [if_neg w2] at hc
    by_cases w3 : x2 ≠ I 129 r
    · simp only [if_pos w3] at hc
      refine mk_mut (T := T) (U := U) (n := n) (P := P) (R := R) (N := N) (J := kaI (up2 I 129 r x2) 3 (r : Int) (I 129 r)) (Ca.deep hc (by omega)) (fun Y hYJ => ?_)
      have yk : ∀ a, a ≠ 191 → a ≠ 126 → ¬(128 ≤ a ∧ a ≤ 132) → Y a = I a := fun a h1 h2 h3 => by
        rw [hYJ a h1, kaI_o h2 (by omega)]
        exact funext (fun j => up2_a _ (by omega))
      have y156 := yk 156 (by decide) (by decide) (by decide)
      have y178 := yk 178 (by decide) (by decide) (by decide)
      have y158 := yk 158 (by decide) (by decide) (by decide)
      have hm := c_X12_tune (d := 0) (I := Y) (S := S) (x1 := (r : Int)) (x2 := x2) l2 (v1 := fun _ => by omega) (v2 := fun _ => by omega) (v3 := fun _ _ => by rw [y158]; omega) (v4 := fun _ _ _ => by rw [y156]; omega) (v5 := fun _ _ _ => by rw [y158]; omega)
      rw [y156, m2, y178, show (12 + (r : Int)).toNat = 12 + r by omega] at hm
      have w4 : 1 ≤ x2 ∧ x2 ≤ 99 := by omega
      have w5 : I 178 (12 + r) ≠ x2 := fun z => w3 (by rw [ham.1]; exact z.symm)
      simp only [if_pos w, if_neg (fun z => z w4 : ¬¬(1 ≤ x2 ∧ x2 ≤ 99)), if_pos w5] at hm
      rw [← ham.1] at hm
      have hN := (IV_S h).1
      obtain ⟨k1, k2⟩ := act_IV (Y := Y) (X := up2 I 129 r x2) (kd := 3) (pl := (r : Int)) (vl := I 129 r) (w := x2) (i := 12 + r) h (funext (fun j => up2_a _ (by decide))) (fun a h1 h2 => funext (fun j => up2_a _ (by omega))) hYJ (Or.inr (Or.inr (Or.inr ⟨rfl, r, hrR, rfl, by rw [ham.1]; omega, fun i hi => (up1_o _ (by omega)).symm, fun j hj => by
          by_cases e : j = r
          · rw [if_pos e, e, ham.1]
          · rw [if_neg e, up1_o _ (by omega)]⟩))) (by
          rw [show (up2 I 129 r x2) 128 = I 128 from funext (fun j => up2_a _ (by decide))]
          exact pnt_ext (IV_A h).1 (fun i hi => (up1_o _ (by omega)).symm)) (fun r' hr' => by
          have g := (IV_A h).2.1 r' hr'
          by_cases e : r' = r
          · rw [e, up2_same, up1_same]; omega
          · rw [up2_k _ e, up1_o _ (by omega)]; exact g)
      exact ⟨_, Ca.deep hm (by omega), k2, kp_191, yk 0 (by decide) (by decide) (by decide), k1⟩
    · simp only [if_neg w3] at hc
      exact bad hc (fun z => w3 z.2)
  · have nw : ∀ {Q : Prop}, (0 ≤ x1 ∧ x1 < I (T + 2) 0) → Q := fun q => absurd (show 0 ≤ x1 ∧ x1 < (R : Int) by omega) w
    have hc := c_X11_tune (d := 0) (I := I) (S := S) (x1 := x1) (x2 := x2) l1 (fun q => nw q) (v2 := fun q _ => nw q) (v3 := fun q _ _ => nw q) (v4 := fun q _ _ _ _ => nw q) (v5 := fun q _ _ _ _ => nw q) (v6 := fun q _ _ _ => nw q)
    rw [e2] at hc
    simp only [if_neg w] at hc
    refine mk_thr0 h (ec := ecI) (by decide) (Ca.deep hc (by omega)) fR_refl (fun Y hY hYJ => ?_)
    obtain ⟨_, ⟨m1, m2, m3⟩, g1, g2, g3⟩ := fm_IV hY
    have nm : ∀ {Q : Prop}, (0 ≤ x1 ∧ x1 < Y 156 14) → Q := fun q => absurd (show 0 ≤ x1 ∧ x1 < (R : Int) by omega) w
    have hm := c_X12_tune (d := 0) (I := Y) (S := exS S) (x1 := x1) (x2 := x2) (IV_L hY).2.1 (v1 := fun q => nm q) (v2 := fun q => nm q) (v3 := fun q _ => nm q) (v4 := fun q _ _ => nm q) (v5 := fun q _ _ => nm q)
    rw [m2] at hm
    simp only [if_neg w] at hm
    exact ⟨_, _, Ca.deep hm (by omega), up2_same _ _ _ _, fR_00⟩
end
end
