/-! ===== reducible pieces; spots of both, in one heap ===== -/
noncomputable section
section
variable {d : Nat} {I J K X Y Z : Nat → Nat → Int} {S S' S1 S2 : PS} {c T U n P R N A a2 p s r a : Nat} {dg b : Int}
theorem rfS_trans (h : rfS S S1) (g : rfS S1 S2) : rfS S S2 := ⟨fun b h1 h2 => (g.1 b h1 h2).trans (h.1 b h1 h2), by have := h.2.1; have := g.2.1; omega, by have := h.2.2; have := g.2.2; omega⟩
theorem sC_sM (h : IV c T U n P R N I S) : sC I T = sM I 0 := by
  funext x y z w
  unfold sC sM
  have hR := IV_R h
  rw [hR.2.1, hR.2.2.1]
  exact sn_eq (rl_IV h rfl rfl rfl (fun _ _ => rfl)) (by rw [Int.toNat_natCast]; exact Nat.le_refl R) x y z w
theorem nb_eq (h : IV c T U n P R N I S) (hs : s < N) : ∃ g : Nat, (3 ≤ g ∧ g ≤ 9) ∧ I (T + 4) s = (g : Int) ∧ I 161 (10 * (s : Int)).toNat = (g : Int) ∧ ∀ j : Nat, j < g → nbC I T s j = nbD I s j := by
  have hS := IV_S h
  obtain ⟨g, g1, g2, g3, g4, _⟩ := hS.2.2.2.1 s hs
  refine ⟨g, g1, g2, by rw [show (10 * (s : Int)).toNat = 10 * s by omega]; exact g3, fun j hj => ?_⟩
  unfold nbC nbD
  rw [show ((s : Int) * 9 + (j : Int)).toNat = 9 * s + j by omega, show (10 * (s : Int) + 1 + (j : Int)).toNat = 10 * s + 1 + j by omega, (g4 j hj).1]
  have hv := hS.2.2.2.2 s j hs (by omega)
  obtain ⟨v, ev⟩ : ∃ v : Nat, I 161 (10 * s + 1 + j) = (v : Int) := ⟨(I 161 (10 * s + 1 + j)).toNat, by have := (g4 j hj).2; omega⟩
  rw [ev] at hv ⊢
  obtain ⟨g', _, b2, b3, _⟩ := hS.2.2.2.1 v (by omega)
  rw [Int.toNat_natCast, show (10 * (v : Int)).toNat = 10 * v by omega, b2, b3]
theorem ccs_mcs (h : IV c T U n P R N I S) (hs : s < N) : ccs I T (s : Int) = mcs I 0 (s : Int) := by
  obtain ⟨g, g1, g2, g3, g4⟩ := nb_eq h hs
  unfold ccs mcs
  rw [g3, Int.toNat_natCast, g2, Int.toNat_natCast, sC_sM h]
  exact chN_congr (by omega) (fun _ _ _ _ => rfl) (fun k hk => g4 k (by omega)) g (Int.le_refl _)
theorem hs_eq (h : IV c T U n P R N I S) (hs : s < N) : hsC I T (s : Int) = hsM I (s : Int) := by
  obtain ⟨g, g1, g2, g3, g4⟩ := nb_eq h hs
  have hP := IV_P h
  unfold hsC hsM
  rw [g3, Int.toNat_natCast, g2, hP.2.1, hP.2.2.1, Int.toNat_natCast]
  refine btN_congr (fun p hp => ?_)
  obtain ⟨⟨H, s', r', cc, e1, e2, e3, e4, _⟩, _⟩ := hP.2.2.2 p hp
  have i1 : (20 * (p : Int)).toNat = 20 * p := by omega
  have i2 : ((20 * (p : Int)) + 1).toNat = 20 * p + 1 := by omega
  rw [i1, i2, show I (T + 7 + 9 * p) 0 = I 159 (20 * p) by omega, show I (T + 7 + 9 * p) 1 = I 159 (20 * p + 1) by omega]
  refine hlB_cg (by omega) (fun k hk => ?_) (fun k hk => g4 k (by omega))
  rw [show ((20 * (p : Int)) + 2 + (k : Int)).toNat = 20 * p + 2 + k by omega]
  exact (e4 k (by omega)).2.symm
theorem rdM_fr (e : ∀ b, 157 ≤ b → b < 191 → J b = I b) (p : Nat) : rdM J p = rdM I p := by
  unfold rdM bdO icM icP
  rw [e 171 (by decide) (by decide), e 167 (by decide) (by decide), e 159 (by decide) (by decide), e 170 (by decide) (by decide)]
theorem red_loop : ∀ (t k : Nat) (X : Nat → Nat → Int) (S : PS) (x1 : Int), k + t = P → IV c T U n P R N X S → isI x1 → (∀ i, i < 32 → bt x1 i = (decide (i < k) && rdM X i)) → ∃ v J S1, L_X11_reduciblePieces_4 10 31 x1 (k : Int) X S v (J, S1) ∧ isI v ∧ (∀ i, i < 32 → bt v i = (decide (i < P) && rdM J i)) ∧ IV c T U n P R N J S1 ∧ rfS S S1 ∧ ∀ b, b < 192 → ¬(T + 7 ≤ b ∧ b < T + 43) → J b = X b
  | 0, k, X, S, x1, hk, h, hi, hb => by
    obtain ⟨l1, l2, hT⟩ := IV_L h
    have e1 := (IV_P h).2.1
    have hkP : k = P := by omega
    subst hkP
    exact ⟨x1, X, S, w_X11_reduciblePieces_4 (J1 := X) (S1 := S) l1 (fun q => absurd q (by omega)) (fun q => absurd q (by omega)) (fun q => absurd q (by omega)) (fun _ => rfl) (e1 := fun _ => rfl) (v1 := fun q => absurd q (by omega)), hi, hb, h, rfS_refl, fun _ _ _ => rfl⟩
  | t + 1, k, X, S, x1, hk, h, hi, hb => by
    obtain ⟨l1, l2, hT⟩ := IV_L h
    have e1 := (IV_P h).2.1
    have hP4 := (IV_P h).1
    have hkP : k < P := by omega
    obtain ⟨r, J1, S1, hr, t1, t2, t3, t4, t5, t6, t7⟩ := st_IV h hkP
    obtain ⟨r2, s2, cc2, i1, i2, i3, ⟨i40, i41, i43, i44, i46⟩, ⟨i5, i6, i7⟩, i8, i9, i10, i11⟩ := pM_IV t7 hkP
    have er2 : r2 = r := by
      rw [t3.2 3 (by omega) (by omega), t5] at i43
      omega
    subst er2
    have hln := ln_96 hr
    obtain ⟨p6, p7, p11, p8, _⟩ := stw t2 hln i9 i10
    have pc := icC_M (Z := J1) t2 hln i9 i10 i46 i7 i8 (fun _ _ _ => rfl)
    have fr : ∀ b, b < 192 → ¬(T + 7 ≤ b ∧ b < T + 43) → J1 b = X b := fun b h1 h2 => t3.1 b h1 (by omega) (by omega) (by omega) (by omega) (by omega) (by omega)
    obtain ⟨y, hy⟩ : ∃ y, y = (if (smI (fun k_1 => bcn (J1 ((T + 7 + 9 * (k : Int).toNat) + 7) k_1) 32) 3) = 0 then (p_or x1 (p_shl 1 (k : Int)) : Int) else (if ¬(icC J1 (T + 7 + 9 * (k : Int).toNat) = true) then (x1 : Int) else p_or x1 (p_shl 1 (k : Int)))) := ⟨_, rfl⟩
    have hbd : bdO J1 (k : Int) = smI (fun k_1 => bcn (J1 ((T + 7 + 9 * (k : Int).toNat) + 7) k_1) 32) 3 := by
      rw [Int.toNat_natCast, p7]
      unfold bdO
      rw [Int.toNat_natCast, i8, Int.toNat_natCast]
    have hyv : y = if rdM J1 k = true then p_or x1 (p_shl 1 (k : Int)) else x1 := by
      rw [hy, ← hbd, Int.toNat_natCast, pc]
      unfold rdM
      by_cases q : bdO J1 (k : Int) = 0
      · rw [if_pos q, decide_eq_true q, Bool.true_or, if_pos rfl]
      · rw [if_neg q, decide_eq_false q, Bool.false_or]
        by_cases q2 : icM J1 (k : Int) = true
        · rw [if_neg (fun z => z q2), if_pos q2]
        · rw [if_pos q2, if_neg q2]
    have yi : isI y := by
      rw [hyv]
      split
      · exact isI_or _ _
      · exact hi
    have yb : ∀ i, i < 32 → bt y i = (decide (i < k + 1) && rdM J1 i) := fun i h32 => by
      have e : rdM J1 i = rdM X i := rdM_fr (fun b h1 h3 => fr b (by omega) (by omega)) i
      rw [hyv]
      by_cases q : rdM J1 k = true
      · rw [if_pos q, bt_or, bt_bit (s := (k : Int)) (by omega), Int.toNat_natCast, hb i h32, e]
        by_cases z : i = k
        · subst z
          rw [← e, q, decide_eq_true rfl, decide_eq_true (show i < i + 1 by omega), Bool.or_true]
          rfl
        · rw [decide_eq_false z, Bool.or_false, show decide (i < k + 1) = decide (i < k) from decide_eq_decide.mpr (by omega)]
      · rw [if_neg q, hb i h32, e]
        by_cases z : i = k
        · subst z
          rw [← e, Bool.eq_false_iff.mpr q, Bool.and_false, Bool.and_false]
        · rw [show decide (i < k + 1) = decide (i < k) from decide_eq_decide.mpr (by omega)]
    obtain ⟨v, J, S2, g1, g2, g3, g4, g5, g6⟩ := red_loop t (k + 1) J1 S1 y (by omega) t7 yi yb
    refine ⟨v, J, S2, w_X11_reduciblePieces_4 (J1 := J1) (S1 := S1) l1 (fun _ => by rw [Int.toNat_natCast]; exact t1) (fun _ => t4) (fun _ => ?_) (fun q => absurd q (by omega)) (e1 := fun q => absurd q (by omega)) (v1 := fun _ => by omega), g2, g3, g4, rfS_trans t6 g5, fun b h1 h2 => (g6 b h1 h2).trans (fr b h1 h2)⟩
    rw [← hy]
    exact g1
theorem red_C (h : IV c T U n P R N I S) : ∃ v J S1, Ca 34 mX11_reduciblePieces [vR (some (21, 0, 31))] (I, S) (.inl (some (vI v))) (J, S1) ∧ isI v ∧ (∀ i, i < 32 → bt v i = (decide (i < P) && rdM J i)) ∧ IV c T U n P R N J S1 ∧ rfS S S1 ∧ ∀ b, b < 192 → ¬(T + 7 ≤ b ∧ b < T + 43) → J b = I b := by
  obtain ⟨v, J, S1, g1, g2⟩ := red_loop P 0 I S 0 (by omega) h ⟨by decide, by decide⟩ (fun i _ => by rw [bt_zero, decide_eq_false (by omega), Bool.false_and])
  exact ⟨v, J, S1, w_X11_reduciblePieces_0 (IV_L h).1 g1, g2⟩
end
end
