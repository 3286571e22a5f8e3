/-! ===== plans, both sides ===== -/
noncomputable section
section
variable {d : Nat} {I J K X Y Z : Nat → Nat → Int} {S S' : PS} {c T U n P R N p r s m : Nat}
theorem plN_okv {t : Nat → Int} {adj : Nat → Nat → Bool} {n m p p' : Nat} {x x' : PT} (h : ptO m x) (e : plN t n adj m p x = .inr (p', x')) : ptO m x' ∧ x.2.2.2.2.1 ≤ x'.2.2.2.2.1 ∧ x'.2.2.2.2.1 ≤ x.2.2.2.2.1 + 1 := by
  unfold plN at e
  split at e
  · cases e
  · split at e
    · cases e
    · split at e
      · cases e
      · rename_i x2 q
        have e2 : x2 = x' := congrArg Prod.snd (Sum.inr.inj e)
        rw [← e2]
        exact plF_ok h q
theorem plR_okv {t : Nat → Int} {adj : Nat → Nat → Bool} {n m : Nat} : ∀ (f p : Nat) (x : PT) (st : Int), ptO m x → ptO m (plR t n adj m f p x st).2.1 ∧ x.2.2.2.2.1 ≤ (plR t n adj m f p x st).2.1.2.2.2.2.1 ∧ (plR t n adj m f p x st).2.1.2.2.2.2.1 ≤ x.2.2.2.2.1 + f
  | 0, p, x, st, h => ⟨h, Int.le_refl _, by show x.2.2.2.2.1 ≤ x.2.2.2.2.1 + 0; omega⟩
  | f + 1, p, x, st, h => by
    unfold plR
    by_cases q : tkK t n p = 0
    · rw [if_pos q]
      exact ⟨h, Int.le_refl _, by show x.2.2.2.2.1 ≤ x.2.2.2.2.1 + ((f + 1 : Nat) : Int); omega⟩
    · rw [if_neg q]
      cases e : plN t n adj m p x with
      | inl b => exact ⟨h, Int.le_refl _, by show x.2.2.2.2.1 ≤ x.2.2.2.2.1 + ((f + 1 : Nat) : Int); omega⟩
      | inr y =>
        obtain ⟨p', x'⟩ := y
        have h1 := plN_okv h e
        have g := plR_okv (t := t) (adj := adj) (n := n) (m := m) f p' x' (st + 1) h1.1
        dsimp only
        exact ⟨g.1, by omega, by omega⟩
theorem pl_N {x1 : Int} (hl0 : LyX12 S) (w : ¬(0 ≤ x1 ∧ x1 ≤ I 156 2)) : Ca 8 mX12_plan [vR (some (22, 0, 156)), vI x1] (I, S) (.inl (some (vI 0))) (up2 (up2 I 156 0 0) 156 0 1, S) :=
  w_X12_plan_0 (d := 0) (J1 := I) hl0 (fun q => absurd q w) (fun q => absurd q w) (r1 := fun _ => rfl) (e1 := fun _ => rfl)
theorem pu_plan {x1 : Int} (h : IV c T U n P R N I S) (hcc : c ≤ 900) : outC c mX11_plan mX12_plan ecA [vI x1] I S := by
  obtain ⟨l1, l2, hT⟩ := IV_L h
  have hT' : T = 34 ∨ T = 77 := by omega
  obtain ⟨t1, t2, t3, t4⟩ := h.2.1
  by_cases w : 0 ≤ x1 ∧ x1 ≤ (n : Int)
  · obtain ⟨m, hm⟩ : ∃ m : Nat, x1 = (m : Int) := ⟨x1.toNat, by omega⟩
    subst hm
    obtain ⟨g1, g2, g3, g4, g5, g6, g7, g8, g9⟩ := h.2.2.2.2.2.2.2.2.1
    obtain ⟨gr, gs1, gs2, gs3⟩ := IV_G h
    obtain ⟨B, hB⟩ : ∃ B, B = up2 (up2 (up2 I 31 1 0) 32 1 (p_min (m : Int) 700)) 32 2 0 := ⟨_, rfl⟩
    have ct := c_X11_takeTape (d := 8) (I := I) (S := S) (x1 := (m : Int)) l1 (by rw [t2]; exact w)
    rw [← hB] at ct
    have bo : ∀ a, a ≠ 31 → a ≠ 32 → B a = I a := fun a h1 h2 => by
      rw [hB]
      exact funext (fun j => by rw [up2_a _ h2, up2_a _ h2, up2_a _ h1])
    have b31 : ∀ k, k ≠ 1 → B 31 k = I 31 k := fun k hk => by rw [hB, up2_a _ (by decide), up2_a _ (by decide), up2_k _ hk]
    have b311 : B 31 1 = 0 := by rw [hB, up2_a _ (by decide), up2_a _ (by decide), up2_same]
    have b321 : B 32 1 = (m : Int) := by
      rw [hB, up2_k _ (by decide), up2_same, p_min_eq (by omega) (by omega)]
      omega
    have b322 : B 32 2 = 0 := by rw [hB, up2_same]
    have hAB : cAd B T N (adM I) := by
      have := iS_cAd (IV_S h)
      unfold cAd at this ⊢
      rw [bo T (by omega) (by omega), bo (T + 5) (by omega) (by omega)]
      exact this
    obtain ⟨J, j1, j2⟩ := run_C (d := 0) (I := B) (S := S) (T := T) (m := N) (adj := adM I) (t := I 157) (n := m) (g := gR I 0) (ev := I 156 48) hT' (ly_X11_n l1) (ly_X11_t l1) (ly_X11_c l1) (ly_X9_p (ly_X11_s l1)) hAB (by rw [bo 33 (by decide) (by decide)]; exact t4) (stC_of gs2 (fun a ha => bo a (by omega) (by omega))) (strs_of gs3 (fun a ha => bo a (by omega) (by omega))) (by omega) (by rw [bo 128 (by decide) (by decide)]; exact iA_pnt (IV_A h)) (by rw [bo 147 (by decide) (by decide)]; exact g1) (by rw [bo 147 (by decide) (by decide)]; exact g2) (by omega) b321 b322
    have hc : Ca 10 mX11_plan [vR (some (21, 0, 31)), vI (m : Int)] (I, S) (.inl (some (vI (J 147 7)))) (J, S) := Ca.of rfl rfl (b_X11_plan_0 ct (b_X11_plan_5 (ly_X11_10 l1) (ly_X11_0 l1) (ly_X11_2 l1) (ly_X11_6 l1) (ly_X9_0 (ly_X11_s l1)) j1 (b_X11_plan_27 (ly_X11_10 l1))))
    have ela : B 147 5 = I 156 49 := by rw [bo 147 (by decide) (by decide)]; exact g3
    rw [ela] at j2
    have hok := plR_okv (t := I 157) (adj := adM I) (n := m) (m := N) 701 0 (pl0 (gR I 0) (I 156 48) (I 156 49)) 0 (pl0_ok (rOk_A (IV_A h)) g6.1)
    obtain ⟨Q, hQ⟩ : ∃ Q, Q = plR (I 157) m (adM I) N 701 0 (pl0 (gR I 0) (I 156 48) (I 156 49)) 0 := ⟨_, rfl⟩
    rw [← hQ] at j2 hok
    have e0 : (pl0 (gR I 0) (I 156 48) (I 156 49)).2.2.2.2.1 = I 156 48 + 1 := rfl
    rw [e0] at hok
    obtain ⟨⟨_, ⟨o2, _⟩, _, o4, _⟩, o6, o7⟩ := hok
    have o4 := o4 0 (by omega)
    obtain ⟨r0, r8, r7, r9, r10, r11, r4, r5, r3, r6⟩ := j2
    have jf : ∀ a, a ≠ 147 → a ≠ 149 → a ≠ 150 → a ≠ 151 → a ≠ 31 → a ≠ 32 → J a = I a := fun a h1 h2 h3 h4 h5 h6 => by
      rw [r0 a (by unfold plW; omega) h6]; exact bo a h5 h6
    rw [r7] at hc
    refine mk_mut (T := T) (U := U) (n := 0) (P := P) (R := R) (N := N) (Ca.deep hc (by omega)) (fun Y hY => ?_)
    have yf : ∀ a, a ≠ 147 → a ≠ 149 → a ≠ 150 → a ≠ 151 → a ≠ 31 → a ≠ 32 → a ≠ 191 → Y a = I a := fun a h1 h2 h3 h4 h5 h6 h7 => by rw [hY a h7]; exact jf a h1 h2 h3 h4 h5 h6
    have y156 : Y 156 = I 156 := yf 156 (by decide) (by decide) (by decide) (by decide) (by decide) (by decide) (by decide)
    have y178 : Y 178 = I 178 := yf 178 (by decide) (by decide) (by decide) (by decide) (by decide) (by decide) (by decide)
    have egR : gR Y 0 = gR I 0 := by funext i; unfold gR; rw [y178]
    obtain ⟨K, k1, k2, k3, k4, k5, k6, k7⟩ := pl_M (d := 0) (I := Y) (S := S) (t := I 157) (n := m) (m := N) (adj := adM I) (ev := I 156 48) l2 (yf 157 (by decide) (by decide) (by decide) (by decide) (by decide) (by decide) (by decide)) (fun k => (t4 k).1) (by omega) (by rw [y156, t3]; omega) (mAd_of (iS_mAd (IV_S h)) (by rw [y156]) (yf 161 (by decide) (by decide) (by decide) (by decide) (by decide) (by decide) (by decide))) (by rw [egR]; exact rOk_A (IV_A h)) (by rw [y156]) (by omega)
    rw [egR, y156, ← hQ] at k1 k7
    obtain ⟨_, s0, s1, s2, s3, s48, s49, s47, s4⟩ := k7
    have kf : ∀ a, a ≠ 178 → a ≠ 184 → a ≠ 185 → a ≠ 186 → a ≠ 156 → a ≠ 191 → K a = J a := fun a h1 h2 h3 h4 h5 h6 => by rw [k2 a h1 h2 h3 h4 h5]; exact hY a h6
    have k147 : K 147 = J 147 := kf 147 (by decide) (by decide) (by decide) (by decide) (by decide) (by decide)
    have k31 : K 31 = B 31 := (kf 31 (by decide) (by decide) (by decide) (by decide) (by decide) (by decide)).trans (r0 31 (by unfold plW; omega) (by decide))
    have ki : ∀ a, a ≠ 147 → a ≠ 149 → a ≠ 150 → a ≠ 151 → a ≠ 31 → a ≠ 32 → a ≠ 178 → a ≠ 184 → a ≠ 185 → a ≠ 186 → a ≠ 156 → a ≠ 191 → K a = I a := fun a h1 h2 h3 h4 h5 h6 h7 h8 h9 h10 h11 h12 => by rw [kf a h7 h8 h9 h10 h11 h12]; exact jf a h1 h2 h3 h4 h5 h6
    refine ⟨K, Ca.deep k1 (by omega), k5, k2 191 (by decide) (by decide) (by decide) (by decide) (by decide), yf 0 (by decide) (by decide) (by decide) (by decide) (by decide) (by decide) (by decide), IV_p0 h ⟨fun a _ b1 b2 b3 _ => ki a (fun e => b2 (by unfold plZ; omega)) (fun e => b1 (by unfold scr; omega)) (fun e => b1 (by unfold scr; omega)) (fun e => b1 (by unfold scr; omega)) (fun e => b2 (by unfold plZ; omega)) (fun e => b1 (by unfold scr; omega)) b3 (fun e => b1 (by unfold scr; omega)) (fun e => b1 (by unfold scr; omega)) (fun e => b2 (by unfold plZ; omega)) (fun e => b2 (by unfold plZ; omega)) (fun e => b1 (by unfold scr; omega)), fun k hk => ?_, fun k hk => ?_, fun k hk => ?_⟩ (fun a ha => ki a (by omega) (by omega) (by omega) (by omega) (by omega) (by omega) (by omega) (by omega) (by omega) (by omega) (by omega) (by omega)) (ki 122 (by decide) (by decide) (by decide) (by decide) (by decide) (by decide) (by decide) (by decide) (by decide) (by decide) (by decide) (by decide)) (ki 123 (by decide) (by decide) (by decide) (by decide) (by decide) (by decide) (by decide) (by decide) (by decide) (by decide) (by decide) (by decide)) (n' := 0) ?_ ?_⟩
    · by_cases q : k = 4
      · rw [q, s4]
      · rw [k4 k (fun e => by unfold pmK gsK at e; unfold crP at hk; omega), y156]
    · rw [k3 k hk, y178]
    · rw [k31]; exact b31 k hk
    · refine ⟨by omega, by rw [k31]; exact b311, k6, ?_⟩
      rw [ki 33 (by decide) (by decide) (by decide) (by decide) (by decide) (by decide) (by decide) (by decide) (by decide) (by decide) (by decide) (by decide), ki 157 (by decide) (by decide) (by decide) (by decide) (by decide) (by decide) (by decide) (by decide) (by decide) (by decide) (by decide) (by decide)]
      exact t4
    · unfold iN
      rw [k147, ki 154 (by decide) (by decide) (by decide) (by decide) (by decide) (by decide) (by decide) (by decide) (by decide) (by decide) (by decide) (by decide)]
      refine ⟨r3, r4.trans s48.symm, r5.trans s49.symm, r6.trans s47.symm, Or.inr s47, ?_, fun _ k hk => ?_, ?_, g9⟩
      · rw [s48]; omega
      · have hk4 : k = 0 ∨ k = 1 ∨ k = 2 ∨ k = 3 := by omega
        rcases hk4 with rfl | rfl | rfl | rfl
        · exact r8.trans s0.symm
        · exact r9.trans s1.symm
        · exact r10.trans s2.symm
        · exact r11.trans s3.symm
      · rw [s49]; omega
  · have hc : Ca 10 mX11_plan [vR (some (21, 0, 31)), vI x1] (I, S) (.inr 0) (I, exS S) := Ca.of rfl rfl (bt_X11_plan_0 (c_X11_takeTape_t (d := 8) l1 (by rw [t2]; exact w)) rfl)
    refine mk_thr0 h ecA_0 (Ca.deep hc (by omega)) fR_refl (fun Y hY hYJ => ?_)
    exact ⟨0, _, Ca.deep (pl_N (IV_L hY).2.1 (by rw [hY.2.1.2.2.1]; exact w)) (by omega), up2_same _ _ _ _, fR_00⟩
end
end
