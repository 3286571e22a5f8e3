/-! ===== whose amount it was: both sides alike ===== -/
noncomputable section
section
variable {d : Nat} {I J K X Y Z : Nat → Nat → Int} {S S' : PS} {c T U n P R N p r s m : Nat}
theorem bhC_lin {a0 a2 a3 r : Nat} {dg v : Int} (h3 : a0 + 1 ≠ a3) (h2 : a2 ≠ a3) : ∀ n, bhC (up2 I a3 r v) a0 a2 a3 dg n = bhC I a0 a2 a3 dg n + if r < n then (v - I a3 r) * ntC I a0 a2 (r : Int) dg dg.toNat else 0
  | 0 => by
    rw [if_neg (by omega)]
    show 10 * (6 - dg) = 10 * (6 - dg) + 0
    omega
  | k + 1 => by
    have ih := bhC_lin (r := r) (dg := dg) (v := v) h3 h2 k
    have en : ntC (up2 I a3 r v) a0 a2 (k : Int) dg dg.toNat = ntC I a0 a2 (k : Int) dg dg.toNat := by
      by_cases hd : 0 ≤ dg
      · exact ntC_congr (funext (fun j => up2_a _ h3)) (fun j _ => up2_a _ h2) _ (by omega)
      · rw [show dg.toNat = 0 by omega]; rfl
    show bhC (up2 I a3 r v) a0 a2 a3 dg k + ((up2 I a3 r v) a3 (k : Int).toNat) * ntC (up2 I a3 r v) a0 a2 (k : Int) dg dg.toNat = (bhC I a0 a2 a3 dg k + (I a3 (k : Int).toNat) * ntC I a0 a2 (k : Int) dg dg.toNat) + _
    rw [en, ih, Int.toNat_natCast]
    by_cases e : k = r
    · subst e
      rw [up2_same, if_neg (by omega), if_pos (by omega), Int.sub_mul]
      omega
    · rw [up2_k _ e]
      by_cases q : r < k
      · rw [if_pos q, if_pos (by omega)]; omega
      · rw [if_neg q, if_neg (by omega)]; omega
theorem ccs_bh (h : IV c T U n P R N I S) (hs : s < N) : ccs I T (s : Int) = bhC (up1 I 152 (nbC I T (s : Int))) (T + 2) 152 129 (I (T + 4) s) R := by
  have hL := (IV_L h).2.2
  obtain ⟨g, g1, g2, g3, g4⟩ := nb_eq h hs
  rw [bhC_chN _ _ _ _ _ (by omega)]
  unfold ccs
  rw [Int.toNat_natCast]
  refine chN_congr (by omega) (fun x y z w => ?_) (fun k _ => by rw [up1_same]) _ (by omega)
  unfold sC
  rw [(IV_R h).2.1, Int.toNat_natCast]
  exact (snC_up _ (by omega) (by omega) x y z w _).symm
theorem mcs_bh (h : IV c T U n P R N I S) (hs : s < N) (X Z : Nat → Nat → Int) (e0 : X (T + 3) = I (T + 3)) (z0 : Z 160 = I 160) (z1 : Z 161 = I 161) (z14 : Z 156 14 = I 156 14) (ea : ∀ r, r < R → X 129 r = Z 178 (30 + r)) : mcs Z 18 (s : Int) = bhC (up1 X 152 (nbC I T (s : Int))) (T + 2) 152 129 (I (T + 4) s) R := by
  have hL := (IV_L h).2.2
  obtain ⟨g, g1, g2, g3, g4⟩ := nb_eq h hs
  have hR := IV_R h
  rw [bhC_chN _ _ _ _ _ (by omega)]
  unfold mcs
  rw [z1, g3, g2]
  refine chN_congr (by omega) (fun x y z w => ?_) (fun k hk => ?_) _ (by omega)
  · unfold sM
    rw [z14, hR.2.2.1, Int.toNat_natCast, snC_up _ (by omega) (by omega)]
    refine (sn_eq (R := R) ⟨fun r hr => ?_, fun r hr => ?_⟩ (Nat.le_refl R) x y z w).symm
    · have := hR.2.2.2 r hr
      unfold ruR at this ⊢
      rw [e0, z0]; exact this
    · rw [show ((18 : Int) + 12 + (r : Int)).toNat = 30 + r by omega]
      exact ea r hr
  · rw [up1_same, g4 k (by omega)]
    unfold nbD
    rw [z1]
theorem mtB_o {a : Nat} (h1 : a ≠ 178) (h2 : a ≠ 156) : mtB I a = I a := (trI_o (up2 I 156 0 0) h1).trans (funext (fun j => up2_a _ h2))
theorem mtB_156 {k : Nat} (hk : k ≠ 0) : mtB I 156 k = I 156 k := (congrFun (trI_o (up2 I 156 0 0) (a := 156) (by decide)) k).trans (up2_k _ hk)
theorem mt_0 (h : IV c T U n P R N I S) (hs : s < N) : mcs (mtB I) 18 (s : Int) = ccs I T (s : Int) := by
  have hR := (IV_R h).1
  rw [ccs_bh h hs]
  refine mcs_bh h hs I (mtB I) rfl (mtB_o (by decide) (by decide)) (mtB_o (by decide) (by decide)) (mtB_156 (by decide)) (fun r hr => ?_)
  rw [show 30 + r = 18 + (12 + r) by omega, mtB_hi (12 + r) (by omega)]
  exact ((IV_A h).2.1 r hr).1
theorem mt_lin (h : IV c T U n P R N I S) (hs : s < N) (hr : r < R) (v : Int) : mcs (up2 (mtB I) 178 (30 + r) v) 18 (s : Int) = ccs I T (s : Int) + (v - I 129 r) * ntN I T (r : Int) (s : Int) := by
  have hR := (IV_R h).1
  have hL := (IV_L h).2.2
  have o : ∀ a, a ≠ 178 → up2 (mtB I) 178 (30 + r) v a = mtB I a := fun a ha => funext (fun j => up2_a _ ha)
  rw [mcs_bh h hs (up2 I 129 r v) (up2 (mtB I) 178 (30 + r) v) (funext (fun j => up2_a _ (by omega))) (by rw [o 160 (by decide)]; exact mtB_o (by decide) (by decide)) (by rw [o 161 (by decide)]; exact mtB_o (by decide) (by decide)) (by rw [o 156 (by decide)]; exact mtB_156 (by decide)) (fun i hi => ?_)]
  · have e : up1 (up2 I 129 r v) 152 (nbC I T (s : Int)) = up2 (up1 I 152 (nbC I T (s : Int))) 129 r v := by
      rw [up2_up1, up2_up1, up1_o I (by decide), up1_comm I _ _ (by decide)]
    rw [e, bhC_lin (by omega) (by decide), if_pos hr, ← ccs_bh h hs, up1_o I (by decide)]
    unfold ntN
    rw [Int.toNat_natCast]
  · by_cases e : i = r
    · subst e; rw [up2_same, up2_same]
    · rw [up2_k _ e, up2_k _ (by omega), show 30 + i = 18 + (12 + i) by omega, mtB_hi (12 + i) (by omega)]
      exact ((IV_A h).2.1 i hi).1
theorem mt_QR (h : IV c T U n P R N I S) (hm : m < 99 * R) : mtQ I T m = mtR I m := by
  obtain ⟨a1, a2, _, q, q1, q2, q3, q4⟩ := IV_A h
  have q2 : I 126 6 = (q : Int) := q2
  have hr : m / 99 < R := by omega
  have e1 : I 129 (m / 99) = I 178 (12 + m / 99) := (a2 (m / 99) hr).1
  unfold mtQ mtR
  obtain ⟨v, hv⟩ : ∃ v : Int, v = ((m % 99 + 1 : Nat) : Int) := ⟨_, rfl⟩
  rw [← hv]
  congr 1
  · rw [e1]; exact decide_eq_decide.mpr (by omega)
  · unfold mtA
    rw [q2, q3, Int.toNat_natCast]
    refine allB_congr (fun i hi => ?_)
    have g : (I 133 i = I 187 (2 * i) ∧ 0 ≤ I 187 (2 * i) ∧ I 187 (2 * i) < (N : Int)) ∧ I 134 i = I 187 (2 * i + 1) ∧ -999 ≤ I 187 (2 * i + 1) ∧ I 187 (2 * i + 1) ≤ 999 := q4 i hi
    have e187 : up2 (mtB I) 178 (30 + m / 99) v 187 = I 187 := (funext (fun j => up2_a _ (by decide))).trans (mtB_o (by decide) (by decide))
    unfold inP
    rw [e187, show (2 * (i : Int)).toNat = 2 * i by omega, show (2 * (i : Int) + 1).toNat = 2 * i + 1 by omega, g.1.1, g.2.1]
    obtain ⟨s, es⟩ : ∃ s : Nat, I 187 (2 * i) = (s : Int) := ⟨(I 187 (2 * i)).toNat, by omega⟩
    rw [es, mt_lin h (by omega) hr]
    exact decide_eq_decide.mpr (by omega)
theorem mnC_cg {Q Q' : Nat → Bool} {m : Nat} (h : ∀ k, k < m → Q k = Q' k) : mnC Q m = mnC Q' m := smI_cg (fun k hk => by rw [h k hk])
theorem fstB_cg {Q Q' : Nat → Bool} : ∀ {m : Nat}, (∀ k, k < m → Q k = Q' k) → fstB Q m = fstB Q' m
  | 0, _ => rfl
  | m + 1, h => by
    unfold fstB
    rw [fstB_cg (fun k hk => h k (by omega)), h m (by omega)]
theorem mnF_cg {Q Q' : Nat → Bool} {m : Nat} (h : ∀ k, k < m → Q k = Q' k) : mnF Q m = mnF Q' m := by
  unfold mnF
  rw [fstB_cg h]
theorem mtQ_fr (e : ∀ a, a ≠ 152 → a ≠ 153 → a ≠ 154 → a ≠ 191 → J a = I a) (h : IV c T U n P R N I S) (m : Nat) : mtQ J T m = mtQ I T m := by
  have hL := (IV_L h).2.2
  have hS := IV_cSp h
  have q := (IV_cNo h).1
  unfold mtQ mtA
  rw [e 129 (by decide) (by decide) (by decide) (by decide), e 126 (by decide) (by decide) (by decide) (by decide), e 133 (by decide) (by decide) (by decide) (by decide), e 134 (by decide) (by decide) (by decide) (by decide)]
  congr 1
  refine allB_congr (fun i hi => ?_)
  have g := q.2 i (by omega)
  rw [ccs_fr (fun a ha => e a (by omega) (by omega) (by omega) (by omega)), ntN_fr (fun a ha => e a (by omega) (by omega) (by omega) (by omega)) (by omega) (by have := (hS.2 _ g.1.1 g.1.2).1; omega)]
theorem pu_meant {x1 : Int} (h : IV c T U n P R N I S) : outC c mX11_meant mX12_meant ecI [vI x1] I S := by
  obtain ⟨l1, l2, hT⟩ := IV_L h
  by_cases w : 0 ≤ x1 ∧ x1 ≤ 2
  · obtain ⟨J, k1, k2, k3⟩ := mt_C (d := 0) (x1 := x1) l1 (by omega) (IV_cSp h) (IV_cRl h) (IV_cNo h).1 (IV_nb h) w
    have hR := IV_R h
    have hJ : IV (c + 1) T U n P R N J S := IV_154 h k2 k3
    refine mk_okI (Ca.deep k1 (by omega)) hJ (k2 0 (by decide) (by decide) (by decide)) (fun Y hY hYJ => ?_)
    have hY0 := IV_r hY (fR_0 (U := U) (v := 0))
    have n1 := IV_cNo hY
    obtain ⟨K, m1, m2⟩ := mt_M (d := 0) (x1 := x1) (IV_L hY).2.1 (iS_mSp (IV_S hY)) (IV_mRl hY) n1.2.1 n1.2.2 w
    have yf : ∀ a, a ≠ 152 → a ≠ 153 → a ≠ 154 → a ≠ 191 → Y a = I a := fun a h1 h2 h3 h4 => by rw [hYJ a h4]; exact k2 a h1 h2 h3
    have e56 := (IV_A h).2.2
    have ev : (if x1 = 2 then (if allB (inP (mtB Y)) (Y 156 56).toNat = true then 1 else 0) else if x1 ≠ 0 then mnF (mtR Y) (99 * (Y 156 14).toNat) else mnC (mtR Y) (99 * (Y 156 14).toNat)) = (if x1 = 2 then (if allB (fun i => decide (ccs I T (I 133 i) = I 134 i)) (I 126 6).toNat = true then 1 else 0) else if x1 ≠ 0 then mnF (mtQ I T) (99 * (I (T + 2) 0).toNat) else mnC (mtQ I T) (99 * (I (T + 2) 0).toNat)) := by
      have r1 := (IV_R hY).2.2.1
      have r2 := hR.2.1
      have qq : ∀ m, m < 99 * R → mtR Y m = mtQ I T m := fun m hm => by rw [← mt_QR hY hm]; exact mtQ_fr yf h m
      rw [r1, r2, Int.toNat_natCast, mnF_cg qq, mnC_cg qq]
      have ea : allB (inP (mtB Y)) (Y 156 56).toNat = allB (fun i => decide (ccs I T (I 133 i) = I 134 i)) (I 126 6).toNat := by
        obtain ⟨_, _, _, q, q1, q2, q3, q4⟩ := IV_A hY
        have q2 : Y 126 6 = (q : Int) := q2
        rw [q3, ← yf 126 (by decide) (by decide) (by decide) (by decide), q2]
        refine allB_congr (fun i hi => ?_)
        rw [Int.toNat_natCast] at hi
        have g : (Y 133 i = Y 187 (2 * i) ∧ 0 ≤ Y 187 (2 * i) ∧ Y 187 (2 * i) < (N : Int)) ∧ Y 134 i = Y 187 (2 * i + 1) ∧ -999 ≤ Y 187 (2 * i + 1) ∧ Y 187 (2 * i + 1) ≤ 999 := q4 i hi
        have e187 : mtB Y 187 = Y 187 := mtB_o (by decide) (by decide)
        unfold inP
        rw [e187, show (2 * (i : Int)).toNat = 2 * i by omega, show (2 * (i : Int) + 1).toNat = 2 * i + 1 by omega, ← yf 133 (by decide) (by decide) (by decide) (by decide), ← yf 134 (by decide) (by decide) (by decide) (by decide), g.1.1, g.2.1]
        obtain ⟨s, es⟩ : ∃ s : Nat, Y 187 (2 * i) = (s : Int) := ⟨(Y 187 (2 * i)).toNat, by omega⟩
        rw [es, mt_0 hY (by omega)]
        rw [ccs_fr (I := I) (J := Y) (fun a ha => yf a (by omega) (by omega) (by omega) (by omega))]
      rw [ea]
    rw [ev] at m1
    obtain ⟨f1, f2, f3, f4⟩ := m2
    exact ⟨K, Ca.deep m1 (by omega), f3, ⟨⟨fun a _ b1 b2 b3 _ => f1 a (fun e => b1 (by unfold scr; omega)) b3 b2, fun k hk => f4 k (fun e => by subst e; unfold cr at hk; omega), f2⟩, fun a ha => f1 a (by omega) (by omega) (by omega), f1 122 (by decide) (by decide) (by decide), f1 123 (by decide) (by decide) (by decide)⟩⟩
  · have hc : Ca 7 mX11_meant [vR (some (21, 0, 31)), vI x1] (I, S) (.inr 1) (I, exS S) := w_X11_meant_0 (d := 0) (J1 := I) (r := (.inr 1, (I, exS S))) l1 (fun q1 q2 => absurd ⟨q1, q2⟩ w) (fun q1 q2 => absurd ⟨q1, q2⟩ w) (fun _ => rfl) (fun q1 q2 => absurd ⟨q1, q2⟩ w) (fun _ _ => rfl) (v1 := fun q1 q2 => absurd ⟨q1, q2⟩ w) (v2 := fun q1 q2 => absurd ⟨q1, q2⟩ w)
    refine mk_thr0 h ecI_1 (Ca.deep hc (by omega)) fR_refl (fun Y hY hYJ => ?_)
    exact ⟨0, _, Ca.deep (mt_N (IV_L hY).2.1 w) (by omega), up2_same _ _ _ _, fR_00⟩
end
end
