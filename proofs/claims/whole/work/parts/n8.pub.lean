/-! ===== calls that ask: spots ===== -/
noncomputable section
section
variable {d : Nat} {I J K X Y Z : Nat → Nat → Int} {S S' : PS} {c T U n P R N A a2 p s : Nat} {dg b : Int}
theorem nrO_bt {D : Nat → Nat → Int} {s : Int} : ∀ m : Nat, (∀ k : Nat, k < m → 0 ≤ D 161 (((10 * s) + 1) + (k : Int)).toNat ∧ D 161 (((10 * s) + 1) + (k : Int)).toNat < 12) → isI (nrO D s m) ∧ ∀ b, b < 32 → bt (nrO D s m) b = anyB (fun k => decide (D 161 (((10 * s) + 1) + (k : Int)).toNat = (b : Int))) m
  | 0, _ => ⟨isI_nat (m := 0) (by decide), fun b _ => bt_zero b⟩
  | m + 1, h => by
    obtain ⟨h1, h2⟩ := nrO_bt m (fun k hk => h k (by omega))
    have hm := h m (by omega)
    refine ⟨isI_or _ _, fun b hb => ?_⟩
    show bt (p_or (nrO D s m) (p_shl 1 (D 161 (((10 * s) + 1) + (m : Int)).toNat))) b = (anyB _ m || decide (D 161 (((10 * s) + 1) + (m : Int)).toNat = (b : Int)))
    rw [bt_or, h2 b hb, bt_bit (by omega)]
    congr 1
    exact decide_eq_decide.mpr (by omega)
theorem rOk_A (h : iA I N R) : rOk (gR I 0) N := (iA_pnt h).1.2
theorem pu_spot {x1 x2 : Int} (h : IV c T U n P R N I S) : outC c mX11_spot mX12_spot ecI [vI x1, vI x2] I S := by
  obtain ⟨l1, l2, hT⟩ := IV_L h
  obtain ⟨⟨b1, b2, b3⟩, ⟨e1, e2, e3⟩, f1, f2, f3⟩ := fc_IV h
  have ra : ∀ a, a ≠ 152 → roI I T 152 x1 a = I a := fun a ha => up1_o _ ha
  have r4 := ra (T + 4) (by omega)
  have r2 := ra (T + 2) (by omega)
  have r0 := ra T (by omega)
  have r9 := ra 129 (by omega)
  have rp : ∀ p : Nat, p < 4 → roI I T 152 x1 (T + 7 + 9 * p) = I (T + 7 + 9 * p) := fun p hp => ra _ (by omega)
  have f3' : ∀ p : Nat, (p : Int) < (P : Int) → 0 ≤ roI I T 152 x1 (T + 7 + 9 * p) 1 ∧ roI I T 152 x1 (T + 7 + 9 * p) 1 ≤ 7 := fun p hp => by rw [rp p (by omega)]; exact f3 p hp
  refine (fun hc => ?m1) (c_X11_spot (d := 0) (I := I) (S := S) (x1 := x1) (x2 := x2) l1 ?_ ?_ ?_ ?_ ?_ ?_ ?_ ?_ ?_ ?_ ?_ ?_ ?_ ?_ ?_ ?_ ?_ ?_ ?_ ?_ ?_ ?_ ?_ ?_)
  case m1 =>
    have mm : ∀ (Y : Nat → Nat → Int) (S' : PS), IV (c + 1) T U n P R N Y S' → ∃ b K, Ca 60 mX12_spot [vR (some (22, 0, 156)), vI x1, vI x2] (Y, S') (.inl (some (vI b))) (K, S') ∧ fR U Y K ∧ K 156 0 = (if 0 ≤ x1 ∧ x1 < (N : Int) ∧ 0 ≤ x2 ∧ x2 ≤ 6 then 0 else 1) ∧ b = (if 0 ≤ x1 ∧ x1 < (N : Int) ∧ 0 ≤ x2 ∧ x2 ≤ 6 then (if x2 = 0 then Y 161 (10 * x1).toNat else if x2 = 1 then nrO (up2 Y 156 0 0) x1 (Y 161 (10 * x1).toNat).toNat else if x2 = 2 then Y 178 x1.toNat else if x2 = 3 then frF (up2 Y 156 0 0) 0 x1 (Y 161 (10 * x1).toNat).toNat else if x2 = 4 then 10 * (6 - Y 161 (10 * x1).toNat) else if x2 = 5 then chB (lnI (up2 Y 156 0 0) x1) 0 (Y 161 (10 * x1).toNat) (Y 161 (10 * x1).toNat).toNat else hoM (lnI (up2 Y 156 0 0) x1) (Y 161 (10 * x1).toNat) (Y 156 13).toNat) else 0) := by
      intro Y S' hY
      obtain ⟨_, ⟨m1, m2, m3⟩, g1, g2, g3⟩ := fm_IV hY
      refine (fun hm => ?m2) (c_X12_spot (d := 0) (I := Y) (S := S') (x1 := x1) (x2 := x2) (IV_L hY).2.1 ?_ ?_ ?_ ?_ ?_ ?_ ?_ ?_ ?_ ?_ ?_ ?_ ?_ ?_ ?_ ?_ ?_ ?_ ?_ ?_ ?_ ?_)
      case m2 =>
        rw [m3] at hm
        have q0 : ∀ v : Int, fR U Y (up2 (up2 Y 156 0 0) 156 0 v) := fun v => fR_trans fR_0 fR_0
        have q1 : fR U Y (lnI (up2 Y 156 0 0) x1) := fR_trans fR_0 fR_ln
        by_cases w1 : 0 ≤ x1 ∧ x1 < (N : Int)
        · by_cases w2 : 0 ≤ x2 ∧ x2 ≤ 6
          · simp only [if_pos w1, if_pos w2] at hm
            rw [if_pos (by omega), if_pos (by omega)]
            by_cases k0 : x2 = 0
            · simp only [if_pos k0] at hm ⊢; exact ⟨_, _, Ca.deep hm (by omega), fR_0, rfl, rfl⟩
            · by_cases k1 : x2 = 1
              · simp only [if_neg k0, if_pos k1] at hm ⊢; exact ⟨_, _, Ca.deep hm (by omega), fR_0, rfl, rfl⟩
              · by_cases k2 : x2 = 2
                · simp only [if_neg k0, if_neg k1, if_pos k2] at hm ⊢; exact ⟨_, _, Ca.deep hm (by omega), fR_0, rfl, rfl⟩
                · by_cases k3 : x2 = 3
                  · simp only [if_neg k0, if_neg k1, if_neg k2, if_pos k3] at hm ⊢; exact ⟨_, _, Ca.deep hm (by omega), fR_0, rfl, rfl⟩
                  · by_cases k4 : x2 = 4
                    · simp only [if_neg k0, if_neg k1, if_neg k2, if_neg k3, if_pos k4] at hm ⊢; exact ⟨_, _, Ca.deep hm (by omega), fR_0, rfl, rfl⟩
                    · by_cases k5 : x2 = 5
                      · simp only [if_neg k0, if_neg k1, if_neg k2, if_neg k3, if_neg k4, if_pos k5] at hm ⊢; exact ⟨_, _, Ca.deep hm (by omega), q1, rfl, rfl⟩
                      · simp only [if_neg k0, if_neg k1, if_neg k2, if_neg k3, if_neg k4, if_neg k5] at hm ⊢; exact ⟨_, _, Ca.deep hm (by omega), q1, rfl, rfl⟩
          · simp only [if_pos w1, if_neg w2] at hm
            rw [if_neg (by omega), if_neg (by omega)]
            exact ⟨_, _, Ca.deep hm (by omega), q0 1, up2_same _ _ _ _, rfl⟩
        · simp only [if_neg w1] at hm
          rw [if_neg (by omega), if_neg (by omega)]
          exact ⟨_, _, Ca.deep hm (by omega), q0 1, up2_same _ _ _ _, rfl⟩
      all_goals (intros; first | omega | exact (g1 x1 (by omega) (by omega)).2 _ (by omega) | exact (g1 x1 (by omega) (by omega)).1 | (have := (g1 x1 (by omega) (by omega)).1; omega) | exact g2 _ (by omega) | exact g3 _ (by omega) | skip)
    rw [e3] at hc
    have ok : ∀ (v : Int) (J : Nat → Nat → Int), Ca 5 mX11_spot [vR (some (21, 0, 31)), vI x1, vI x2] (I, S) (.inl (some (vI v))) (J, S) → fR U I J → (∀ a, 155 ≤ a → J a = I a) → (0 ≤ x1 ∧ x1 < (N : Int) ∧ 0 ≤ x2 ∧ x2 ≤ 6) → (∀ Y, IV (c + 1) T U n P R N Y S → yQ I Y → v = (if x2 = 0 then Y 161 (10 * x1).toNat else if x2 = 1 then nrO (up2 Y 156 0 0) x1 (Y 161 (10 * x1).toNat).toNat else if x2 = 2 then Y 178 x1.toNat else if x2 = 3 then frF (up2 Y 156 0 0) 0 x1 (Y 161 (10 * x1).toNat).toNat else if x2 = 4 then 10 * (6 - Y 161 (10 * x1).toNat) else if x2 = 5 then chB (lnI (up2 Y 156 0 0) x1) 0 (Y 161 (10 * x1).toNat) (Y 161 (10 * x1).toNat).toNat else hoM (lnI (up2 Y 156 0 0) x1) (Y 161 (10 * x1).toNat) (Y 156 13).toNat)) → outC c mX11_spot mX12_spot ecI [vI x1, vI x2] I S := by
      intro v J c1 c2 c3 c4 c5
      refine mk_ok0 h (Ca.deep c1 (by omega)) c2 (fun Y hY hYJ => ?_)
      obtain ⟨b, K, k1, k2, k3, k4⟩ := mm Y S hY
      rw [if_pos c4] at k3 k4
      rw [c5 Y hY (yQ_of hYJ c3), ← k4]
      exact ⟨K, k1, k3, k2⟩
    have no : Ca 5 mX11_spot [vR (some (21, 0, 31)), vI x1, vI x2] (I, S) (.inr 1) (I, exS S) → ¬(0 ≤ x1 ∧ x1 < (N : Int) ∧ 0 ≤ x2 ∧ x2 ≤ 6) → outC c mX11_spot mX12_spot ecI [vI x1, vI x2] I S := by
      intro c1 c4
      refine mk_thr0 h ecI_1 (Ca.deep c1 (by omega)) fR_refl (fun Y hY hYJ => ?_)
      obtain ⟨b, K, k1, k2, k3, k4⟩ := mm Y (exS S) hY
      rw [if_neg c4] at k3
      exact ⟨b, K, k1, k3, k2⟩
    by_cases w1 : 0 ≤ x1 ∧ x1 < (N : Int)
    · obtain ⟨s, hs⟩ : ∃ s : Nat, x1 = (s : Int) := ⟨x1.toNat, by omega⟩
      have hsN : s < N := by omega
      have i10 : (10 * x1).toNat = 10 * s := by omega
      have ist : x1.toNat = s := by omega
      obtain ⟨g, q1, q2, q3, q4, q5, q6⟩ := (IV_S h).2.2.2.1 s hsN
      have hr152 : ∀ a, 155 ≤ a → roI I T 152 x1 a = I a := fun a ha => ra a (by omega)
      simp only [if_pos w1] at hc
      by_cases k0 : x2 = 0
      · simp only [if_pos k0] at hc
        exact ok _ _ hc fR_refl (fun _ _ => rfl) (by omega) (fun Y hY y => by rw [if_pos k0, i10, y.2.2.1, ist, q2, q3])
      · by_cases k1 : x2 = 1
        · simp only [if_neg k0, if_pos k1] at hc
          refine ok _ _ hc fR_refl (fun _ _ => rfl) (by omega) (fun Y hY y => ?_)
          rw [if_neg k0, if_pos k1, i10, y.2.2.1, ist, q3, Int.toNat_natCast]
          have z : ∀ k : Nat, up2 Y 156 0 0 161 (10 * x1 + 1 + (k : Int)).toNat = I 161 (10 * s + 1 + k) := fun k => by rw [up2_a _ (by decide), y.2.2.1]; congr 1; omega
          obtain ⟨u1, u2⟩ := nrO_bt (D := up2 Y 156 0 0) (s := x1) g (fun k hk => by rw [z]; exact (q4 k hk).2)
          refine bt_ext q5 u1 (fun b hb => ?_)
          rw [q6 b hb, u2 b hb]
          exact anyB_congr (fun k _ => by rw [z])
        · by_cases k2 : x2 = 2
          · simp only [if_neg k0, if_neg k1, if_pos k2] at hc
            refine ok _ _ hc fR_refl (fun _ _ => rfl) (by omega) (fun Y hY y => ?_)
            rw [if_neg k0, if_neg k1, if_pos k2, y.2.2.2.2.1, ist, hs]
            exact pnt_col (IV_A h).1 hsN
          · by_cases k3 : x2 = 3
            · simp only [if_neg k0, if_neg k1, if_neg k2, if_pos k3] at hc
              refine ok _ _ hc fR_refl (fun _ _ => rfl) (by omega) (fun Y hY y => ?_)
              rw [if_neg k0, if_neg k1, if_neg k2, if_pos k3]
              have a1 : adM (up2 Y 156 0 0) = adM I := by
                funext u i
                unfold adM
                rw [show up2 Y 156 0 0 161 = I 161 by rw [← y.2.2.1]; exact funext (fun j => up2_a _ (by decide))]
              have a2 : mAd (up2 Y 156 0 0) N (adM (up2 Y 156 0 0)) := iS_mAd (IV_S (IV_r (U := U) hY (fR_0 (v := 0))))
              have a3 : gR (up2 Y 156 0 0) 0 = gR I 0 := by
                funext i
                unfold gR
                rw [up2_a _ (by decide), y.2.2.2.2.1]
              have a4 := frF_eq a2 hsN (b := 0) (by rw [a3]; exact rOk_A (IV_A h))
              rw [a1, a3] at a4
              have a5 : up2 Y 156 0 0 161 (10 * (s : Int)).toNat = Y 161 (10 * x1).toNat := by rw [up2_a _ (by decide), hs]
              rw [a5, ← hs] at a4
              rw [a4, ist]
              exact pnt_frC (iA_pnt (IV_A h)) (fun i hi => iS_adM (IV_S h) hsN (by omega))
            · by_cases k4 : x2 = 4
              · simp only [if_neg k0, if_neg k1, if_neg k2, if_neg k3, if_pos k4] at hc
                exact ok _ _ hc fR_refl (fun _ _ => rfl) (by omega) (fun Y hY y => by rw [if_neg k0, if_neg k1, if_neg k2, if_neg k3, if_pos k4, i10, y.2.2.1, ist, q2, q3])
              · by_cases k5 : x2 = 5
                · simp only [if_neg k0, if_neg k1, if_neg k2, if_neg k3, if_neg k4, if_pos k5] at hc
                  refine ok _ _ hc (fR_ro hT) hr152 (by omega) (fun Y hY y => ?_)
                  rw [if_neg k0, if_neg k1, if_neg k2, if_neg k3, if_neg k4, if_pos k5, hs]
                  exact bh_spot h hsN y
                · by_cases k6 : x2 = 6
                  · simp only [if_neg k0, if_neg k1, if_neg k2, if_neg k3, if_neg k4, if_neg k5, if_pos k6] at hc
                    refine ok _ _ hc (fR_ro hT) hr152 (by omega) (fun Y hY y => ?_)
                    rw [if_neg k0, if_neg k1, if_neg k2, if_neg k3, if_neg k4, if_neg k5, hs]
                    exact ho_spot h hsN y
                  · simp only [if_neg k0, if_neg k1, if_neg k2, if_neg k3, if_neg k4, if_neg k5, if_neg k6] at hc
                    exact no hc (by omega)
    · simp only [if_neg w1] at hc
      exact no hc (by omega)
  all_goals (intros; first | omega | (rw [r4]; have := (f1 x1 (by omega) (by omega)).1; omega) | (have := (f1 x1 (by omega) (by omega)).1; omega) | exact (f1 x1 (by omega) (by omega)).2 _ (by omega) | (rw [r2]; omega) | (rw [r0]; omega) | (rw [r9]; exact f2 _ (by rw [r2] at *; omega)) | exact f3' _ (by rw [r0] at *; omega) | skip)
end
end
