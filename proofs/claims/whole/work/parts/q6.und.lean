/-! ===== undo ===== -/
noncomputable section
section
variable {d : Nat} {I J K X Y Z : Nat → Nat → Int} {S S' : PS} {c T U n P R N p r s m : Nat} {kd pl vl : Int}
theorem unI_o {a : Nat} (h : a ≠ 178) (h1 : a ≠ 156) : unI Y a = Y a := by
  unfold unI
  split
  · exact funext (fun j => up2_a _ h1)
  · rw [up1_o _ h]
    exact funext (fun j => by rw [up2_a _ h1, up2_a _ h1])
theorem und_IV (h : IV c T U n P R N I S) (ha : I 126 2 = (m : Int) + 1) (hm30 : m < 30) (hacts : ∀ k, k < m → acU N R (I 130 k) (I 131 k) (I 132 k) (fun j => I 179 (18 * (k + 1) + j)) (fun j => I 179 (18 * k + j))) (ha2 : I 156 41 = (m : Int) + 1) (j2 : J 126 2 = (m : Int)) (jo : ∀ k, k ≠ 2 → J 126 k = I 126 k) (jr : ∀ a, a ≠ 126 → a ≠ 128 → a ≠ 129 → J a = I a) (hY : ∀ a, a ≠ 191 → Y a = J a) (hp : pnt (J 128) (fun j => I 179 (18 * m + j)) N) (hr : ∀ r, r < R → J 129 r = I 179 (18 * m + (12 + r)) ∧ 1 ≤ I 179 (18 * m + (12 + r)) ∧ I 179 (18 * m + (12 + r)) ≤ 99) : IV (c + 1) T U n P R N (unI Y) S ∧ unI Y 156 0 = 0 := by
  have hN := (IV_S h).1
  have hR := (IV_R h).1
  have ky : ∀ a, a ≠ 191 → a ≠ 126 → a ≠ 128 → a ≠ 129 → Y a = I a := fun a h1 h2 h3 h4 => by rw [hY a h1, jr a h2 h3 h4]
  have y41 : Y 156 41 = (m : Int) + 1 := by rw [ky 156 (by decide) (by decide) (by decide) (by decide)]; exact ha2
  have eU : unI Y = up1 (up2 (up2 Y 156 0 0) 156 41 (Y 156 41 - 1)) 178 (upTo (Y 178) (fun j => Y 179 ((18 * (Y 156 41 - 1)).toNat + j)) 0 18) := if_neg (by omega)
  have k : ∀ a, a ≠ 191 → a ≠ 126 → a ≠ 128 → a ≠ 129 → a ≠ 156 → a ≠ 178 → unI Y a = I a := fun a h1 h2 h3 h4 h5 h6 => by rw [unI_o h6 h5, ky a h1 h2 h3 h4]
  have k6 : ∀ j, j ≠ 0 → j ≠ 41 → unI Y 156 j = I 156 j := fun j h0 h41 => by rw [eU, up1_o _ (by decide), up2_k _ h41, up2_k _ h0, ky 156 (by decide) (by decide) (by decide) (by decide)]
  have k78 : ∀ j, j < 18 → unI Y 178 j = I 179 (18 * m + j) := fun j hj => by
    rw [eU, up1_same, upTo_in (by omega), y41, ky 179 (by decide) (by decide) (by decide) (by decide), show (18 * ((m : Int) + 1 - 1)).toNat = 18 * m by omega]
  have kj : ∀ a, 126 ≤ a → a ≤ 134 → unI Y a = J a := fun a h1 h2 => by rw [unI_o (by omega) (by omega), hY a (by omega)]
  refine ⟨IV_m h ⟨fun a h1 h2 h3 h4 h5 => k a (by unfold scr at h2; omega) (by unfold mutQ at h4; omega) (by unfold mutQ at h4; omega) (by unfold mutQ at h4; omega) h3 (by unfold mutQ at h4; omega), fun j hj h41 _ => k6 j (by unfold cr at hj; omega) h41, fun a ha => k a (by omega) (by omega) (by omega) (by omega) (by omega) (by omega)⟩ (k 122 (by decide) (by decide) (by decide) (by decide) (by decide) (by decide)) (k 123 (by decide) (by decide) (by decide) (by decide) (by decide) (by decide)) ?_ ?_, ?_⟩
  · have hF := iF_c h.2.2.1 (show c ≤ c + 1 by omega)
    unfold iF at hF ⊢
    rw [k 31 (by decide) (by decide) (by decide) (by decide) (by decide) (by decide), k6 4 (by decide) (by decide), k 155 (by decide) (by decide) (by decide) (by decide) (by decide) (by decide), k 158 (by decide) (by decide) (by decide) (by decide) (by decide) (by decide)]
    exact hF
  · obtain ⟨_, _, _, q, q1, q2, q3, q4⟩ := IV_A h
    refine ⟨?_, fun r hr' => ?_, ⟨m, by omega, by rw [kj 126 (by decide) (by decide)]; exact j2, by rw [eU, up1_o _ (by decide), up2_same, y41]; omega, fun j hj => ?_⟩, q, q1, by rw [kj 126 (by decide) (by decide), jo 6 (by decide)]; exact q2, by rw [k6 56 (by decide) (by decide)]; exact q3, fun i hi => ?_⟩
    · rw [kj 128 (by decide) (by decide)]
      exact pnt_ext hp (fun i hi => (k78 i (by omega)).symm)
    · rw [kj 129 (by decide) (by decide), k78 (12 + r) (by omega)]
      exact hr r hr'
    · rw [kj 130 (by decide) (by decide), kj 131 (by decide) (by decide), kj 132 (by decide) (by decide), jr 130 (by decide) (by decide) (by decide), jr 131 (by decide) (by decide) (by decide), jr 132 (by decide) (by decide) (by decide), k 179 (by decide) (by decide) (by decide) (by decide) (by decide) (by decide)]
      refine acU_cg (hacts j hj) (fun i hi => ?_) (fun i hi => rfl)
      by_cases z : j + 1 < m
      · rw [if_pos z]
      · rw [if_neg z, k78 i (by omega), show j + 1 = m by omega]
    · rw [kj 133 (by decide) (by decide), kj 134 (by decide) (by decide), jr 133 (by decide) (by decide) (by decide), jr 134 (by decide) (by decide) (by decide), k 187 (by decide) (by decide) (by decide) (by decide) (by decide) (by decide)]
      exact q4 i hi
  · rw [eU, up1_o _ (by decide), up2_k _ (by decide), up2_same]
theorem pu_undo (h : IV c T U n P R N I S) : outC c mX11_undo mX12_undo ecZ [] I S := by
  obtain ⟨l1, l2, hT⟩ := IV_L h
  have hac := acts_in h
  have hN := (IV_S h).1
  have hR := (IV_R h).1
  obtain ⟨hp, hrw, ⟨a, a1, a2, a3, a4⟩, _⟩ := IV_A h
  by_cases h0 : a = 0
  · subst h0
    have w0 : ¬(I 126 2 ≠ 0) := fun z => z (by rw [a2]; rfl)
    have hc := c_X11_undo (d := 0) (I := I) (S := S) l1 (fun q => absurd q w0) (fun q => absurd q w0) (fun q => absurd q w0) (fun q => absurd q w0) (fun q => absurd q w0) (fun q => absurd q w0) (fun q => absurd q w0) (fun q => absurd q w0)
    simp only [if_neg w0] at hc
    refine mk_ok0 h (Ca.deep hc (by omega)) fR_refl (fun Y hY hYJ => ?_)
    have y41 : Y 156 41 = 0 := by rw [hYJ 156 (by decide), a3]; rfl
    have hm := c_X12_undo (d := 0) (I := Y) (S := S) (IV_L hY).2.1 (by omega)
    have e : unI Y = up2 Y 156 0 0 := if_pos y41
    rw [y41, e] at hm
    exact ⟨_, Ca.deep hm (by omega), up2_same _ _ _ _, fR_0⟩
  · obtain ⟨m, hm⟩ : ∃ m, a = m + 1 := ⟨a - 1, by omega⟩
    subst hm
    have hm' : (I 126 2 - 1).toNat = m := by omega
    have w0 : I 126 2 ≠ 0 := by omega
    have w1 : 1 ≤ I 126 2 := by omega
    have act : acU N R (I 130 m) (I 131 m) (I 132 m) (I 178) (fun j => I 179 (18 * m + j)) := acU_cg (a4 m (by omega)) (fun i _ => by rw [if_neg (by omega)]) (fun i _ => rfl)
    have hacts : ∀ k, k < m → acU N R (I 130 k) (I 131 k) (I 132 k) (fun j => I 179 (18 * (k + 1) + j)) (fun j => I 179 (18 * k + j)) := fun k hk => acU_cg (a4 k (by omega)) (fun i _ => by rw [if_pos (by omega)]) (fun i _ => rfl)
    have fin : ∀ J : Nat → Nat → Int, Ca 2 mX11_undo [vR (some (21, 0, 31))] (I, S) (.inl (some (vI (J 126 2)))) (J, S) → J 126 2 = (m : Int) → (∀ k, k ≠ 2 → J 126 k = I 126 k) → (∀ a, a ≠ 126 → a ≠ 128 → a ≠ 129 → J a = I a) → pnt (J 128) (fun j => I 179 (18 * m + j)) N → (∀ r, r < R → J 129 r = I 179 (18 * m + (12 + r)) ∧ 1 ≤ I 179 (18 * m + (12 + r)) ∧ I 179 (18 * m + (12 + r)) ≤ 99) → outC c mX11_undo mX12_undo ecZ [] I S := fun J hc j2 jo jr hp hr => by
      rw [j2] at hc
      refine mk_mut (T := T) (U := U) (n := n) (P := P) (R := R) (N := N) (Ca.deep hc (by omega)) (fun Y hYJ => ?_)
      have y156 : Y 156 = I 156 := by rw [hYJ 156 (by decide), jr 156 (by decide) (by decide) (by decide)]
      have hm := c_X12_undo (d := 0) (I := Y) (S := S) l2 (by rw [y156]; omega)
      rw [y156, show I 156 41 - 1 = (m : Int) by omega] at hm
      obtain ⟨k1, k2⟩ := und_IV (Y := Y) h (by omega) (by omega) hacts (by omega) j2 jo jr hYJ hp hr
      exact ⟨_, Ca.deep hm (by omega), k2, un_191, (hYJ 0 (by decide)).trans (jr 0 (by decide) (by decide) (by decide)), k1⟩
    have P8 : (up2 I 126 2 (I 126 2 - 1)) (127 + 1) = I 128 := funext (fun j => up2_a _ (by decide))
    have P9 : (up2 I 126 2 (I 126 2 - 1)) 129 = I 129 := funext (fun j => up2_a _ (by decide))
    have kr : I 130 (I 126 2 - 1).toNat = I 130 m := by rw [hm']
    have pr : I 131 (I 126 2 - 1).toNat = I 131 m := by rw [hm']
    have vr : I 132 (I 126 2 - 1).toNat = I 132 m := by rw [hm']
    have am : ∀ r, r < R → I 129 r = I 178 (12 + r) ∧ 1 ≤ I 178 (12 + r) ∧ I 178 (12 + r) ≤ 99 := hrw
    rcases act with ⟨k0, s, g, ⟨hs, hg⟩, ⟨p1, v1⟩, q1, q2, q3⟩ | ⟨k0, s, g, ⟨hs, hg⟩, ⟨p1, v1⟩, q1, q2, q3⟩ | ⟨k0, x, y, ⟨hx, hy, hxy⟩, v1, q2, q3⟩ | ⟨k0, r, hrr, p1, v1, q2, q3⟩
    · have z0 : I 130 m = 0 := k0
      have hc := c_X11_undo (d := 0) (I := I) (S := S) l1 (fun _ => by omega) (fun _ _ => by omega) (fun _ _ q => by omega) (fun _ _ q => by omega) (fun _ _ q => by omega) (fun _ _ q => by omega) (fun _ _ q => by omega) (fun _ _ q => by omega)
      rw [kr, pr, vr] at hc
      simp only [if_pos w0, if_pos w1, if_pos k0] at hc
      refine fin _ hc (by simp only [up2_a _ (show (126 : Nat) ≠ 128 by decide), up2_a _ (show (126 : Nat) ≠ 127 + 1 by decide), up2_a _ (show (126 : Nat) ≠ 129 by decide)]; rw [up2_same]; omega) (fun k hk => by simp only [up2_a _ (show (126 : Nat) ≠ 128 by decide), up2_a _ (show (126 : Nat) ≠ 127 + 1 by decide), up2_a _ (show (126 : Nat) ≠ 129 by decide)]; exact up2_k _ hk) (fun a h1 h2 h3 => funext (fun j => by simp only [up2_a _ (show a ≠ 127 + 1 from h2), up2_a _ h3, up2_a _ h1])) ?_ (fun r hr => by
        have g := am r hr
        have e := q3 r hr
        have e : I 179 (18 * m + (12 + r)) = I 178 (12 + r) := e
        rw [e]
        refine ⟨?_, g.2⟩
        rw [← g.1]
        simp only [up2_a _ (show (129 : Nat) ≠ 127 + 1 by decide), up2_a _ (show (129 : Nat) ≠ 126 by decide)])
      rw [v1, Int.toNat_natCast, p1, P8, up2_up1, up1_same, P8]
      exact pnt_ext (pnt_take hp hs hg q1) (fun i hi => (q2 i hi).symm)
    · have z0 : I 130 m = 1 := k0
      have hc := c_X11_undo (d := 0) (I := I) (S := S) l1 (fun _ => by omega) (fun _ _ => by omega) (fun _ _ q => by omega) (fun _ _ q => by omega) (fun _ _ q => by omega) (fun _ _ q => by omega) (fun _ _ q => by omega) (fun _ _ q => by omega)
      rw [kr, pr, vr] at hc
      simp only [if_pos w0, if_pos w1, if_neg (show ¬(I 130 m = 0) by omega), if_pos k0] at hc
      refine fin _ hc (by simp only [up2_a _ (show (126 : Nat) ≠ 128 by decide), up2_a _ (show (126 : Nat) ≠ 127 + 1 by decide), up2_a _ (show (126 : Nat) ≠ 129 by decide)]; rw [up2_same]; omega) (fun k hk => by simp only [up2_a _ (show (126 : Nat) ≠ 128 by decide), up2_a _ (show (126 : Nat) ≠ 127 + 1 by decide), up2_a _ (show (126 : Nat) ≠ 129 by decide)]; exact up2_k _ hk) (fun a h1 h2 h3 => funext (fun j => by simp only [up2_a _ (show a ≠ 127 + 1 from h2), up2_a _ h3, up2_a _ h1])) ?_ (fun r hr => by
        have g := am r hr
        have e := q3 r hr
        have e : I 179 (18 * m + (12 + r)) = I 178 (12 + r) := e
        rw [e]
        refine ⟨?_, g.2⟩
        rw [← g.1]
        simp only [up2_a _ (show (129 : Nat) ≠ 127 + 1 by decide), up2_a _ (show (129 : Nat) ≠ 126 by decide)])
      rw [v1, Int.toNat_natCast, p1, P8, up2_up1, up1_same, P8]
      exact pnt_ext (pnt_put hp hs hg q1) (fun i hi => (q2 i hi).symm)
    · have z0 : I 130 m = 2 := k0
      have hc := c_X11_undo (d := 0) (I := I) (S := S) l1 (fun _ => by omega) (fun _ _ => by omega) (fun _ _ q => by omega) (fun _ _ q => by omega) (fun _ _ q => by omega) (fun _ _ q => by omega) (fun _ _ q => by omega) (fun _ _ q => by omega)
      rw [kr, pr, vr] at hc
      simp only [if_pos w0, if_pos w1, if_neg (show ¬(I 130 m = 0) by omega), if_neg (show ¬(I 130 m = 1) by omega), if_pos k0] at hc
      rw [show (I 132 m / 4).toNat = x by omega, show (I 132 m % 4).toNat = y by omega] at hc
      refine fin _ hc (by simp only [up2_a _ (show (126 : Nat) ≠ 128 by decide), up2_a _ (show (126 : Nat) ≠ 127 + 1 by decide), up2_a _ (show (126 : Nat) ≠ 129 by decide)]; rw [up2_same]; omega) (fun k hk => by simp only [up2_a _ (show (126 : Nat) ≠ 128 by decide), up2_a _ (show (126 : Nat) ≠ 127 + 1 by decide), up2_a _ (show (126 : Nat) ≠ 129 by decide)]; exact up2_k _ hk) (fun a h1 h2 h3 => funext (fun j => by simp only [up2_a _ (show a ≠ 127 + 1 from h2), up2_a _ h3, up2_a _ h1])) ?_ (fun r hr => by
        have g := am r hr
        have e := q3 r hr
        have e : I 179 (18 * m + (12 + r)) = I 178 (12 + r) := e
        rw [e]
        refine ⟨?_, g.2⟩
        rw [← g.1]
        simp only [up2_a _ (show (129 : Nat) ≠ 127 + 1 by decide), up2_a _ (show (129 : Nat) ≠ 126 by decide)])
      rw [P8, up2_up1, up1_same, up2_up1, up1_same, P8]
      exact pnt_ext (pnt_xc (x := I 131 m) hp hx hy hxy) (fun i hi => (q2 i hi).symm)
    · have z0 : I 130 m = 3 := k0
      have hc := c_X11_undo (d := 0) (I := I) (S := S) l1 (fun _ => by omega) (fun _ _ => by omega) (fun _ _ q => by omega) (fun _ _ q => by omega) (fun _ _ q => by omega) (fun _ _ q => by omega) (fun _ _ q => by omega) (fun _ _ q => by omega)
      rw [kr, pr, vr] at hc
      simp only [if_pos w0, if_pos w1, if_neg (show ¬(I 130 m = 0) by omega), if_neg (show ¬(I 130 m = 1) by omega), if_neg (show ¬(I 130 m = 2) by omega)] at hc
      refine fin _ hc (by simp only [up2_a _ (show (126 : Nat) ≠ 128 by decide), up2_a _ (show (126 : Nat) ≠ 127 + 1 by decide), up2_a _ (show (126 : Nat) ≠ 129 by decide)]; rw [up2_same]; omega) (fun k hk => by simp only [up2_a _ (show (126 : Nat) ≠ 128 by decide), up2_a _ (show (126 : Nat) ≠ 127 + 1 by decide), up2_a _ (show (126 : Nat) ≠ 129 by decide)]; exact up2_k _ hk) (fun a h1 h2 h3 => funext (fun j => by simp only [up2_a _ (show a ≠ 127 + 1 from h2), up2_a _ h3, up2_a _ h1])) ?_ (fun r' hr' => ?_)
      · rw [show (up2 (up2 I 126 2 (I 126 2 - 1)) 129 (I 131 m).toNat (I 132 m)) 128 = I 128 from funext (fun j => by rw [up2_a _ (by decide), up2_a _ (by decide)])]
        exact pnt_ext hp (fun i hi => (q2 i hi).symm)
      · have e := q3 r' hr'
        have e : I 179 (18 * m + (12 + r')) = if r' = r then I 132 m else I 178 (12 + r') := e
        rw [e, p1, Int.toNat_natCast]
        by_cases z : r' = r
        · rw [if_pos z, z, up2_same]
          omega
        · rw [if_neg z, up2_k _ z, up2_a _ (by decide)]
          exact am r' hr'
end
end
