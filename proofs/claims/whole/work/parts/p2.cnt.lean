/-! ===== counts told, both sides ===== -/
noncomputable section
section
variable {d : Nat} {I J K X Y Z : Nat → Nat → Int} {S S' S1 S2 : PS} {c T U n P R N A a2 p s r a : Nat} {dg b : Int}
theorem caM_sm (I : Nat → Nat → Int) (w : Int) : ∀ n : Nat, caM I w n = smI (fun k => if w = 0 then 10 * (6 - (I 161 (10 * (k : Int)).toNat)) else if w = 1 then mcs I 0 (k : Int) else if 0 < mcs I 0 (k : Int) then 1 else 0) n
  | 0 => rfl
  | n + 1 => by
    show caM I w n + _ = smI _ n + _
    rw [caM_sm I w n]
theorem caC_sm (f : Nat → Int) : ∀ n : Nat, caC f n = smI (fun k => 10 * (6 - f k)) n
  | 0 => rfl
  | n + 1 => by
    show caC f n + (10 * (6 - f ((n : Int)).toNat)) = smI _ n + _
    rw [caC_sm f n, Int.toNat_natCast]
theorem mcs_fr (e0 : Y 156 14 = J 156 14) (e1 : Y 160 = J 160) (e2 : Y 178 = J 178) (e3 : Y 161 = J 161) (s : Int) : mcs Y 0 s = mcs J 0 s := by
  unfold mcs
  have e : nbD Y s = nbD J s := by
    funext j
    unfold nbD
    rw [e3]
  rw [sM_fr e0 e1 e2, e, e3]
theorem bcn_btN {Q : Nat → Bool} {n : Nat} (hn : n ≤ 32) : bcn (btN Q n) 32 = smI (fun i => if Q i = true then 1 else 0) n := by
  rw [bcn_smI (f := fun i => if (decide (i < n) && Q i) = true then 1 else 0) (fun i hi => by rw [btN_bt hn]), smI_tail hn (fun i h1 _ => by rw [decide_eq_false (show ¬(i < n) by omega)]; rfl)]
  exact smI_cg (fun i hi => by rw [decide_eq_true hi, Bool.true_and])
theorem cvdS_eq (h : IV c T U n P R N I S) (hs : s < N) {v : Int} (hv : ∀ i, i < 32 → bt v i = (decide (i < P) && rdM I i)) : decide (p_and (hsC I T (s : Int)) v = 0) = !cvdS I (s : Int) := by
  have hP := IV_P h
  have e : cvdS I (s : Int) = decide (p_and (hsC I T (s : Int)) v ≠ 0) := by
    rw [hs_eq h hs]
    unfold cvdS hsM
    rw [hP.2.2.1, Int.toNat_natCast, and_any hP.1 hv]
    exact anyB_congr (fun p hp => by rw [btN_bt (by have := hP.1; omega), decide_eq_true hp, Bool.true_and])
  rw [e]
  by_cases q : p_and (hsC I T (s : Int)) v = 0
  · rw [decide_eq_true q, decide_eq_false (fun z => z q)]; rfl
  · rw [decide_eq_false q, decide_eq_true q]; rfl
theorem cvdS_fr (e : ∀ b, 157 ≤ b → b < 191 → Y b = J b) (e13 : Y 156 13 = J 156 13) (s : Int) : cvdS Y s = cvdS J s := by
  unfold cvdS hsM
  have en : nbD Y s = nbD J s := by
    funext j
    unfold nbD
    rw [e 161 (by decide) (by decide)]
  rw [e13, e 159 (by decide) (by decide), e 161 (by decide) (by decide), en]
  exact anyB_congr (fun p _ => by rw [rdM_fr e p])
theorem pu_count {x1 : Int} (h : IV c T U n P R N I S) : outC c mX11_count mX12_count ecI [vI x1] I S := by
  obtain ⟨l1, l2, hT⟩ := IV_L h
  obtain ⟨⟨b1, b2, b3⟩, ⟨e1, e2, e3⟩, f1, f2, f3⟩ := fc_IV h
  have hT' : T = 34 ∨ T = 77 := by omega
  have i52 : ∀ F, IV c T U n P R N (up1 I 152 F) S := fun F => IV_r h (fR_scr (fun a ha => up1_o _ (fun e => ha ⟨by rw [e]; unfold scr; omega, by omega⟩)))
  obtain ⟨v, J1, S1, r1, r2, r3, r4, r5, r6⟩ := red_C (i52 (scC I T (I T 6).toNat))
  have r6' : ∀ b, b < 192 → b ≠ 152 → ¬(T + 7 ≤ b ∧ b < T + 43) → J1 b = I b := fun b h1 h2 h3 => by rw [r6 b h1 h3]; exact up1_o _ h2
  have j6 : J1 T 6 = (N : Int) := by rw [r6' T (by omega) (by omega) (by omega)]; exact e3
  have l11 := (IV_L r4).1
  have ecc : ∀ k : Nat, ccs J1 T (k : Int) = ccs I T (k : Int) := fun k => ccs_fr (fun a ha => by rcases ha with e | e | e | e | e <;> subst e <;> exact r6' _ (by omega) (by omega) (by omega))
  obtain ⟨z2, hz2⟩ : ∃ z2, z2 = btN (fun s => decide (0 < ccs I T (s : Int)) && decide (p_and (hsC J1 T (s : Int)) v = 0)) N := ⟨_, rfl⟩
  obtain ⟨J2, o1, o2⟩ := os_C (d := 30) (S := S1) (I := J1) (x1 := btN (fun s => decide (0 < ccs I T (s : Int))) (I T 6).toNat) (x2 := v) (v := z2) l11 hT' (IV_cSp r4) (IV_cPi r4) (btN_isI _ _) (by rw [hz2]; exact btN_isI _ _) (fun i hi => by
    rw [hz2, btN_bt (by omega), e3, Int.toNat_natCast, btN_bt (by omega), j6, Int.toNat_natCast]
    by_cases q : i < N
    · rw [decide_eq_true q, Bool.true_and, Bool.true_and, Bool.not_true, Bool.false_or]
    · rw [decide_eq_false q, Bool.false_and, Bool.false_and, Bool.false_and])
  have r4' : IV c T U n P R N J2 S1 := IV_r r4 (fR_scr (fun a ha => o2 a (fun e => ha ⟨by rw [e]; unfold scr; omega, by omega⟩)))
  have mm : ∀ (Y : Nat → Nat → Int) (S' : PS), IV (c + 1) T U n P R N Y S' → ∃ F, Ca 7 mX12_count [vR (some (22, 0, 156)), vI x1] (Y, S') _ _ := fun Y S' hY => by
    obtain ⟨_, ⟨m1, m2, m3⟩, g1, g2, g3⟩ := fm_IV hY
    have hY0 := IV_r (U := U) hY (fR_0 (v := 0))
    obtain ⟨F, hF⟩ := oo_M (d := 1) (I := up2 Y 156 0 0) (S := S') (IV_L hY).2.1 (iS_mSp (IV_S hY0)) (IV_mRl hY0) (IV_mPs hY0)
    refine ⟨F, ?_⟩
    refine (fun hm => ?m2) (c_X12_count (d := 0) (I := Y) (S := S') (x1 := x1) (z1 := btN (fun s => decide (0 < mcs (up2 Y 156 0 0) 0 (s : Int)) && !cvdS (up2 Y 156 0 0) (s : Int)) N) (J1 := up1 (up2 Y 156 0 0) 177 F) (IV_L hY).2.1 ?_ ?_ ?_ ?_ ?_ ?_ ?_ ?_ ?_ (fun _ _ => by
      have e : ((up2 Y 156 0 0) 156 15).toNat = N := by rw [up2_k _ (by decide), m3, Int.toNat_natCast]
      rw [e] at hF
      exact hF))
    case m2 =>
      rw [m1, m2, m3, Int.toNat_natCast] at hm
      exact hm
    all_goals (intros; first | omega | exact iS_mSp (IV_S hY0) | exact IV_mRl hY0 | skip)
  refine (fun hc => ?m1) (c_X11_count (d := 10) (I := I) (S := S) (x1 := x1) (z1 := v) (z2 := z2) (J1 := J1) (J2 := J2) (S1 := S1) l1 ?_ ?_ ?_ ?_ ?_ ?_ ?_ ?_ ?_ ?_ ?_ (fun _ => r1) (fun _ => l11) (fun _ => o1))
  case m1 =>
    rw [e1, e2, e3, Int.toNat_natCast] at hc
    have ok0 : ∀ (v : Int) (L : Nat → Nat → Int), Ca 35 mX11_count [vR (some (21, 0, 31)), vI x1] (I, S) (.inl (some (vI v))) (L, S) → (∀ b, b ≠ 152 → L b = I b) → (∀ Y : Nat → Nat → Int, IV (c + 1) T U n P R N Y S → (∀ b, b ≠ 191 → b ≠ 152 → Y b = I b) → ∃ M, Ca 7 mX12_count [vR (some (22, 0, 156)), vI x1] (Y, S) (.inl (some (vI v))) (M, S) ∧ M 156 0 = 0 ∧ fR U Y M) → outC c mX11_count mX12_count ecI [vI x1] I S := fun v L hc hL hM =>
      mk_ok0 h (Ca.deep hc (by omega)) (fR_scr (fun a ha => hL a (fun e => ha ⟨by rw [e]; unfold scr; omega, by omega⟩))) (fun Y hY hYJ => by
        obtain ⟨M, q1, q2, q3⟩ := hM Y hY (fun b h1 h2 => by rw [hYJ b h1, hL b h2])
        exact ⟨M, Ca.deep q1 (by omega), q2, q3⟩)
    have z0 : ∀ Y : Nat → Nat → Int, (up2 Y 156 0 0) 156 0 = 0 ∧ fR U Y (up2 Y 156 0 0) := fun Y => ⟨up2_same _ _ _ _, fR_0⟩
    have zF : ∀ (Y : Nat → Nat → Int) (w : Int), caF (up2 Y 156 0 0) w 156 0 = 0 ∧ fR U Y (caF (up2 Y 156 0 0) w) := fun Y w => by
      unfold caF
      split
      · exact z0 Y
      · exact ⟨by rw [up1_o _ (by decide)]; exact up2_same _ _ _ _, fR_trans (z0 Y).2 (fR_scr (fun a ha => up1_o _ (fun e => ha ⟨by rw [e]; unfold scr; omega, by omega⟩)))⟩
    have em : ∀ Y : Nat → Nat → Int, (∀ b, 156 ≤ b → b < 191 → Y b = I b) → ∀ k : Nat, k < N → mcs (up2 Y 156 0 0) 0 (k : Int) = ccs I T (k : Int) := fun Y hYI k hk => by
      rw [ccs_mcs h hk]
      refine mcs_fr ?_ ?_ ?_ ?_ _
      · rw [up2_k _ (by decide), hYI 156 (by decide) (by decide)]
      · rw [← hYI 160 (by decide) (by decide)]; exact funext (fun j => up2_a _ (by decide))
      · rw [← hYI 178 (by decide) (by decide)]; exact funext (fun j => up2_a _ (by decide))
      · rw [← hYI 161 (by decide) (by decide)]; exact funext (fun j => up2_a _ (by decide))
    by_cases x20 : x1 = 0
    · simp only [ if_pos x20] at hc
      refine ok0 _ _ hc (fun b hb => rfl) (fun Y hY hYJ => ?_)
      obtain ⟨F, hm⟩ := mm Y _ hY
      simp only [if_pos (show 0 ≤ x1 ∧ x1 ≤ 16 by omega),  if_pos x20] at hm
      skip
      exact ⟨_, hm, z0 Y⟩
    by_cases x21 : x1 = 1
    · simp only [if_neg (show ¬(x1 = 0) by omega), if_pos x21] at hc
      refine ok0 _ _ hc (fun b hb => rfl) (fun Y hY hYJ => ?_)
      obtain ⟨F, hm⟩ := mm Y _ hY
      simp only [if_pos (show 0 ≤ x1 ∧ x1 ≤ 16 by omega), if_neg (show ¬(x1 = 0) by omega), if_pos x21] at hm
      skip
      exact ⟨_, hm, z0 Y⟩
    by_cases x22 : x1 = 2
    · simp only [if_neg (show ¬(x1 = 0) by omega), if_neg (show ¬(x1 = 1) by omega), if_pos x22] at hc
      refine ok0 _ _ hc (fun b hb => rfl) (fun Y hY hYJ => ?_)
      obtain ⟨F, hm⟩ := mm Y _ hY
      simp only [if_pos (show 0 ≤ x1 ∧ x1 ≤ 16 by omega), if_neg (show ¬(x1 = 0) by omega), if_neg (show ¬(x1 = 1) by omega), if_pos x22] at hm
      skip
      exact ⟨_, hm, z0 Y⟩
    by_cases x23 : x1 = 3
    · simp only [if_neg (show ¬(x1 = 0) by omega), if_neg (show ¬(x1 = 1) by omega), if_neg (show ¬(x1 = 2) by omega), if_pos x23] at hc
      refine ok0 _ _ hc (fun b hb => rfl) (fun Y hY hYJ => ?_)
      obtain ⟨F, hm⟩ := mm Y _ hY
      simp only [if_pos (show 0 ≤ x1 ∧ x1 ≤ 16 by omega), if_neg (show ¬(x1 = 0) by omega), if_neg (show ¬(x1 = 1) by omega), if_neg (show ¬(x1 = 2) by omega), if_pos x23] at hm
      have e : cntP (up2 Y 156 0 0) 0 N = bcn (p_or (p_or (p_or (I (127 + 1) 0) (I (127 + 1) 1)) (I (127 + 1) 2)) (I (127 + 1) 3)) 32 := by
        rw [cntP_ct, pnt_cnt (iA_pnt (IV_A h))]
        refine ctG_congr (fun i _ => ?_)
        unfold gR
        rw [up2_a _ (by decide), hYJ 178 (by decide) (by decide)]
      rw [e] at hm
      exact ⟨_, hm, z0 Y⟩
    by_cases x24 : x1 = 4
    · simp only [if_neg (show ¬(x1 = 0) by omega), if_neg (show ¬(x1 = 1) by omega), if_neg (show ¬(x1 = 2) by omega), if_neg (show ¬(x1 = 3) by omega), if_pos x24] at hc
      refine ok0 _ _ hc (fun b hb => rfl) (fun Y hY hYJ => ?_)
      obtain ⟨F, hm⟩ := mm Y _ hY
      simp only [if_pos (show 0 ≤ x1 ∧ x1 ≤ 16 by omega), if_neg (show ¬(x1 = 0) by omega), if_neg (show ¬(x1 = 1) by omega), if_neg (show ¬(x1 = 2) by omega), if_neg (show ¬(x1 = 3) by omega), if_pos x24] at hm
      have e : caM (up2 Y 156 0 0) 0 N = caC (I (T + 4)) N := by
        rw [caM_sm, caC_sm]
        refine smI_cg (fun k hk => ?_)
        obtain ⟨g, g1, g2, g3, g4⟩ := nb_eq h hk
        rw [if_pos rfl, up2_a _ (by decide), hYJ 161 (by decide) (by decide), g3, g2]
      rw [e] at hm
      exact ⟨_, hm, zF Y 0⟩
    by_cases x25 : x1 = 5
    · simp only [if_neg (show ¬(x1 = 0) by omega), if_neg (show ¬(x1 = 1) by omega), if_neg (show ¬(x1 = 2) by omega), if_neg (show ¬(x1 = 3) by omega), if_neg (show ¬(x1 = 4) by omega), if_pos x25] at hc
      refine ok0 _ _ hc (fun b hb => up1_o _ hb) (fun Y hY hYJ => ?_)
      obtain ⟨F, hm⟩ := mm Y _ hY
      simp only [if_pos (show 0 ≤ x1 ∧ x1 ≤ 16 by omega), if_neg (show ¬(x1 = 0) by omega), if_neg (show ¬(x1 = 1) by omega), if_neg (show ¬(x1 = 2) by omega), if_neg (show ¬(x1 = 3) by omega), if_neg (show ¬(x1 = 4) by omega), if_pos x25] at hm
      have e : caM (up2 Y 156 0 0) 1 N = smI (fun s => ccs I T (s : Int)) N := by
        rw [caM_sm]
        refine smI_cg (fun k hk => ?_)
        rw [if_neg (by decide), if_pos rfl, em Y (fun b h1 h2 => hYJ b (by omega) (by omega)) k hk]
      rw [e] at hm
      exact ⟨_, hm, zF Y 1⟩
    by_cases x26 : x1 = 6
    · simp only [if_neg (show ¬(x1 = 0) by omega), if_neg (show ¬(x1 = 1) by omega), if_neg (show ¬(x1 = 2) by omega), if_neg (show ¬(x1 = 3) by omega), if_neg (show ¬(x1 = 4) by omega), if_neg (show ¬(x1 = 5) by omega), if_pos x26] at hc
      refine ok0 _ _ hc (fun b hb => up1_o _ hb) (fun Y hY hYJ => ?_)
      obtain ⟨F, hm⟩ := mm Y _ hY
      simp only [if_pos (show 0 ≤ x1 ∧ x1 ≤ 16 by omega), if_neg (show ¬(x1 = 0) by omega), if_neg (show ¬(x1 = 1) by omega), if_neg (show ¬(x1 = 2) by omega), if_neg (show ¬(x1 = 3) by omega), if_neg (show ¬(x1 = 4) by omega), if_neg (show ¬(x1 = 5) by omega), if_pos x26] at hm
      have e : caM (up2 Y 156 0 0) 2 N = bcn (btN (fun s => decide (0 < ccs I T (s : Int))) N) 32 := by
        rw [caM_sm, bcn_btN (by omega)]
        refine smI_cg (fun k hk => ?_)
        rw [if_neg (by decide), if_neg (by decide), em Y (fun b h1 h2 => hYJ b (by omega) (by omega)) k hk]
        by_cases q : 0 < ccs I T (k : Int)
        · rw [if_pos q, decide_eq_true q, if_pos rfl]
        · rw [if_neg q, decide_eq_false q, if_neg (by decide)]
      rw [e] at hm
      exact ⟨_, hm, zF Y 2⟩
    by_cases x27 : x1 = 7
    · simp only [if_neg (show ¬(x1 = 0) by omega), if_neg (show ¬(x1 = 1) by omega), if_neg (show ¬(x1 = 2) by omega), if_neg (show ¬(x1 = 3) by omega), if_neg (show ¬(x1 = 4) by omega), if_neg (show ¬(x1 = 5) by omega), if_neg (show ¬(x1 = 6) by omega), if_pos x27] at hc
      refine mk_okI (Ca.deep hc (by omega)) (IV_c r4' (by omega)) ((o2 0 (by omega)).trans (r6' 0 (by omega) (by omega) (by omega))) (fun Y hY hYJ => ?_)
      obtain ⟨F, hm⟩ := mm Y _ hY
      simp only [if_pos (show 0 ≤ x1 ∧ x1 ≤ 16 by omega), if_neg (show ¬(x1 = 0) by omega), if_neg (show ¬(x1 = 1) by omega), if_neg (show ¬(x1 = 2) by omega), if_neg (show ¬(x1 = 3) by omega), if_neg (show ¬(x1 = 4) by omega), if_neg (show ¬(x1 = 5) by omega), if_neg (show ¬(x1 = 6) by omega), if_pos x27] at hm
      have yj : ∀ b, 153 ≤ b → b < 191 → Y b = J1 b := fun b h1 h2 => by rw [hYJ b (by omega), o2 b (by omega)]
      have zj : ∀ b, 157 ≤ b → b < 191 → (up2 Y 156 0 0) b = J1 b := fun b h1 h2 => by rw [← yj b (by omega) h2]; exact funext (fun j => up2_a _ (by omega))
      have e : btN (fun s => decide (0 < mcs (up2 Y 156 0 0) 0 (s : Int)) && !cvdS (up2 Y 156 0 0) (s : Int)) N = z2 := by
        rw [hz2]
        refine btN_congr (fun k hk => ?_)
        rw [mcs_fr (J := J1) (by rw [up2_k _ (by decide), yj 156 (by decide) (by decide)]) (zj 160 (by decide) (by decide)) (zj 178 (by decide) (by decide)) (zj 161 (by decide) (by decide)), ← ccs_mcs r4 hk, ecc, cvdS_fr (J := J1) zj (by rw [up2_k _ (by decide), yj 156 (by decide) (by decide)]), ← cvdS_eq r4 hk r3]
      rw [e] at hm
      exact ⟨_, Ca.deep hm (by omega), by rw [up1_o _ (by decide)]; exact up2_same _ _ _ _, fR_trans (fR_0 (v := 0)) (fR_scr (fun a ha => up1_o _ (fun e => ha ⟨by rw [e]; unfold scr; omega, by omega⟩)))⟩
    obtain ⟨n1, n2, n3, n4, n5, n6, n7, n8⟩ := h.2.2.2.2.2.2.2.2.1
    obtain ⟨_, _, ⟨a0, a1, a2, a3, a4⟩, m0, m1, m2, m3, m4⟩ := IV_A h
    obtain ⟨t1, t2, t3, t4⟩ := h.2.1
    obtain ⟨u1, u2⟩ := h.2.2.1
    by_cases x28 : x1 = 8
    · simp only [if_neg (show ¬(x1 = 0) by omega), if_neg (show ¬(x1 = 1) by omega), if_neg (show ¬(x1 = 2) by omega), if_neg (show ¬(x1 = 3) by omega), if_neg (show ¬(x1 = 4) by omega), if_neg (show ¬(x1 = 5) by omega), if_neg (show ¬(x1 = 6) by omega), if_neg (show ¬(x1 = 7) by omega), if_pos x28] at hc
      refine ok0 _ _ hc (fun b hb => rfl) (fun Y hY hYJ => ?_)
      obtain ⟨F, hm⟩ := mm Y _ hY
      simp only [if_pos (show 0 ≤ x1 ∧ x1 ≤ 16 by omega), if_neg (show ¬(x1 = 0) by omega), if_neg (show ¬(x1 = 1) by omega), if_neg (show ¬(x1 = 2) by omega), if_neg (show ¬(x1 = 3) by omega), if_neg (show ¬(x1 = 4) by omega), if_neg (show ¬(x1 = 5) by omega), if_neg (show ¬(x1 = 6) by omega), if_neg (show ¬(x1 = 7) by omega), if_pos x28] at hm
      rw [hYJ 156 (by decide) (by decide), ← n2] at hm
      exact ⟨_, hm, z0 Y⟩
    by_cases x29 : x1 = 9
    · simp only [if_neg (show ¬(x1 = 0) by omega), if_neg (show ¬(x1 = 1) by omega), if_neg (show ¬(x1 = 2) by omega), if_neg (show ¬(x1 = 3) by omega), if_neg (show ¬(x1 = 4) by omega), if_neg (show ¬(x1 = 5) by omega), if_neg (show ¬(x1 = 6) by omega), if_neg (show ¬(x1 = 7) by omega), if_neg (show ¬(x1 = 8) by omega), if_pos x29] at hc
      rw [n1] at hc
      refine ok0 _ _ hc (fun b hb => rfl) (fun Y hY hYJ => ?_)
      obtain ⟨F, hm⟩ := mm Y _ hY
      simp only [if_pos (show 0 ≤ x1 ∧ x1 ≤ 16 by omega), if_neg (show ¬(x1 = 0) by omega), if_neg (show ¬(x1 = 1) by omega), if_neg (show ¬(x1 = 2) by omega), if_neg (show ¬(x1 = 3) by omega), if_neg (show ¬(x1 = 4) by omega), if_neg (show ¬(x1 = 5) by omega), if_neg (show ¬(x1 = 6) by omega), if_neg (show ¬(x1 = 7) by omega), if_neg (show ¬(x1 = 8) by omega), if_pos x29] at hm
      skip
      exact ⟨_, hm, z0 Y⟩
    by_cases x30 : x1 = 10
    · simp only [if_neg (show ¬(x1 = 0) by omega), if_neg (show ¬(x1 = 1) by omega), if_neg (show ¬(x1 = 2) by omega), if_neg (show ¬(x1 = 3) by omega), if_neg (show ¬(x1 = 4) by omega), if_neg (show ¬(x1 = 5) by omega), if_neg (show ¬(x1 = 6) by omega), if_neg (show ¬(x1 = 7) by omega), if_neg (show ¬(x1 = 8) by omega), if_neg (show ¬(x1 = 9) by omega), if_pos x30] at hc
      refine ok0 _ _ hc (fun b hb => rfl) (fun Y hY hYJ => ?_)
      obtain ⟨F, hm⟩ := mm Y _ hY
      simp only [if_pos (show 0 ≤ x1 ∧ x1 ≤ 16 by omega), if_neg (show ¬(x1 = 0) by omega), if_neg (show ¬(x1 = 1) by omega), if_neg (show ¬(x1 = 2) by omega), if_neg (show ¬(x1 = 3) by omega), if_neg (show ¬(x1 = 4) by omega), if_neg (show ¬(x1 = 5) by omega), if_neg (show ¬(x1 = 6) by omega), if_neg (show ¬(x1 = 7) by omega), if_neg (show ¬(x1 = 8) by omega), if_neg (show ¬(x1 = 9) by omega), if_pos x30] at hm
      rw [hYJ 156 (by decide) (by decide), ← n3] at hm
      exact ⟨_, hm, z0 Y⟩
    by_cases x31 : x1 = 11
    · simp only [if_neg (show ¬(x1 = 0) by omega), if_neg (show ¬(x1 = 1) by omega), if_neg (show ¬(x1 = 2) by omega), if_neg (show ¬(x1 = 3) by omega), if_neg (show ¬(x1 = 4) by omega), if_neg (show ¬(x1 = 5) by omega), if_neg (show ¬(x1 = 6) by omega), if_neg (show ¬(x1 = 7) by omega), if_neg (show ¬(x1 = 8) by omega), if_neg (show ¬(x1 = 9) by omega), if_neg (show ¬(x1 = 10) by omega), if_pos x31] at hc
      refine ok0 _ _ hc (fun b hb => rfl) (fun Y hY hYJ => ?_)
      obtain ⟨F, hm⟩ := mm Y _ hY
      simp only [if_pos (show 0 ≤ x1 ∧ x1 ≤ 16 by omega), if_neg (show ¬(x1 = 0) by omega), if_neg (show ¬(x1 = 1) by omega), if_neg (show ¬(x1 = 2) by omega), if_neg (show ¬(x1 = 3) by omega), if_neg (show ¬(x1 = 4) by omega), if_neg (show ¬(x1 = 5) by omega), if_neg (show ¬(x1 = 6) by omega), if_neg (show ¬(x1 = 7) by omega), if_neg (show ¬(x1 = 8) by omega), if_neg (show ¬(x1 = 9) by omega), if_neg (show ¬(x1 = 10) by omega), if_pos x31] at hm
      rw [hYJ 156 (by decide) (by decide), a3, ← a2] at hm
      exact ⟨_, hm, z0 Y⟩
    by_cases x32 : x1 = 12
    · simp only [if_neg (show ¬(x1 = 0) by omega), if_neg (show ¬(x1 = 1) by omega), if_neg (show ¬(x1 = 2) by omega), if_neg (show ¬(x1 = 3) by omega), if_neg (show ¬(x1 = 4) by omega), if_neg (show ¬(x1 = 5) by omega), if_neg (show ¬(x1 = 6) by omega), if_neg (show ¬(x1 = 7) by omega), if_neg (show ¬(x1 = 8) by omega), if_neg (show ¬(x1 = 9) by omega), if_neg (show ¬(x1 = 10) by omega), if_neg (show ¬(x1 = 11) by omega), if_pos x32] at hc
      refine ok0 _ _ hc (fun b hb => rfl) (fun Y hY hYJ => ?_)
      obtain ⟨F, hm⟩ := mm Y _ hY
      simp only [if_pos (show 0 ≤ x1 ∧ x1 ≤ 16 by omega), if_neg (show ¬(x1 = 0) by omega), if_neg (show ¬(x1 = 1) by omega), if_neg (show ¬(x1 = 2) by omega), if_neg (show ¬(x1 = 3) by omega), if_neg (show ¬(x1 = 4) by omega), if_neg (show ¬(x1 = 5) by omega), if_neg (show ¬(x1 = 6) by omega), if_neg (show ¬(x1 = 7) by omega), if_neg (show ¬(x1 = 8) by omega), if_neg (show ¬(x1 = 9) by omega), if_neg (show ¬(x1 = 10) by omega), if_neg (show ¬(x1 = 11) by omega), if_pos x32] at hm
      rw [hYJ 156 (by decide) (by decide), m3, ← m2] at hm
      exact ⟨_, hm, z0 Y⟩
    by_cases x33 : x1 = 13
    · simp only [if_neg (show ¬(x1 = 0) by omega), if_neg (show ¬(x1 = 1) by omega), if_neg (show ¬(x1 = 2) by omega), if_neg (show ¬(x1 = 3) by omega), if_neg (show ¬(x1 = 4) by omega), if_neg (show ¬(x1 = 5) by omega), if_neg (show ¬(x1 = 6) by omega), if_neg (show ¬(x1 = 7) by omega), if_neg (show ¬(x1 = 8) by omega), if_neg (show ¬(x1 = 9) by omega), if_neg (show ¬(x1 = 10) by omega), if_neg (show ¬(x1 = 11) by omega), if_neg (show ¬(x1 = 12) by omega), if_pos x33] at hc
      refine ok0 _ _ hc (fun b hb => rfl) (fun Y hY hYJ => ?_)
      obtain ⟨F, hm⟩ := mm Y _ hY
      simp only [if_pos (show 0 ≤ x1 ∧ x1 ≤ 16 by omega), if_neg (show ¬(x1 = 0) by omega), if_neg (show ¬(x1 = 1) by omega), if_neg (show ¬(x1 = 2) by omega), if_neg (show ¬(x1 = 3) by omega), if_neg (show ¬(x1 = 4) by omega), if_neg (show ¬(x1 = 5) by omega), if_neg (show ¬(x1 = 6) by omega), if_neg (show ¬(x1 = 7) by omega), if_neg (show ¬(x1 = 8) by omega), if_neg (show ¬(x1 = 9) by omega), if_neg (show ¬(x1 = 10) by omega), if_neg (show ¬(x1 = 11) by omega), if_neg (show ¬(x1 = 12) by omega), if_pos x33] at hm
      rw [hYJ 156 (by decide) (by decide), t3, ← t2] at hm
      exact ⟨_, hm, z0 Y⟩
    by_cases x34 : x1 = 14
    · simp only [if_neg (show ¬(x1 = 0) by omega), if_neg (show ¬(x1 = 1) by omega), if_neg (show ¬(x1 = 2) by omega), if_neg (show ¬(x1 = 3) by omega), if_neg (show ¬(x1 = 4) by omega), if_neg (show ¬(x1 = 5) by omega), if_neg (show ¬(x1 = 6) by omega), if_neg (show ¬(x1 = 7) by omega), if_neg (show ¬(x1 = 8) by omega), if_neg (show ¬(x1 = 9) by omega), if_neg (show ¬(x1 = 10) by omega), if_neg (show ¬(x1 = 11) by omega), if_neg (show ¬(x1 = 12) by omega), if_neg (show ¬(x1 = 13) by omega), if_pos x34] at hc
      refine ok0 _ _ hc (fun b hb => rfl) (fun Y hY hYJ => ?_)
      obtain ⟨F, hm⟩ := mm Y _ hY
      simp only [if_pos (show 0 ≤ x1 ∧ x1 ≤ 16 by omega), if_neg (show ¬(x1 = 0) by omega), if_neg (show ¬(x1 = 1) by omega), if_neg (show ¬(x1 = 2) by omega), if_neg (show ¬(x1 = 3) by omega), if_neg (show ¬(x1 = 4) by omega), if_neg (show ¬(x1 = 5) by omega), if_neg (show ¬(x1 = 6) by omega), if_neg (show ¬(x1 = 7) by omega), if_neg (show ¬(x1 = 8) by omega), if_neg (show ¬(x1 = 9) by omega), if_neg (show ¬(x1 = 10) by omega), if_neg (show ¬(x1 = 11) by omega), if_neg (show ¬(x1 = 12) by omega), if_neg (show ¬(x1 = 13) by omega)] at hm
      rw [hYJ 158 (by decide) (by decide), show (x1 - 14).toNat = 0 by omega, ← (u2 0 (by decide)).1] at hm
      exact ⟨_, hm, z0 Y⟩
    by_cases x35 : x1 = 15
    · simp only [if_neg (show ¬(x1 = 0) by omega), if_neg (show ¬(x1 = 1) by omega), if_neg (show ¬(x1 = 2) by omega), if_neg (show ¬(x1 = 3) by omega), if_neg (show ¬(x1 = 4) by omega), if_neg (show ¬(x1 = 5) by omega), if_neg (show ¬(x1 = 6) by omega), if_neg (show ¬(x1 = 7) by omega), if_neg (show ¬(x1 = 8) by omega), if_neg (show ¬(x1 = 9) by omega), if_neg (show ¬(x1 = 10) by omega), if_neg (show ¬(x1 = 11) by omega), if_neg (show ¬(x1 = 12) by omega), if_neg (show ¬(x1 = 13) by omega), if_neg (show ¬(x1 = 14) by omega), if_pos x35] at hc
      refine ok0 _ _ hc (fun b hb => rfl) (fun Y hY hYJ => ?_)
      obtain ⟨F, hm⟩ := mm Y _ hY
      simp only [if_pos (show 0 ≤ x1 ∧ x1 ≤ 16 by omega), if_neg (show ¬(x1 = 0) by omega), if_neg (show ¬(x1 = 1) by omega), if_neg (show ¬(x1 = 2) by omega), if_neg (show ¬(x1 = 3) by omega), if_neg (show ¬(x1 = 4) by omega), if_neg (show ¬(x1 = 5) by omega), if_neg (show ¬(x1 = 6) by omega), if_neg (show ¬(x1 = 7) by omega), if_neg (show ¬(x1 = 8) by omega), if_neg (show ¬(x1 = 9) by omega), if_neg (show ¬(x1 = 10) by omega), if_neg (show ¬(x1 = 11) by omega), if_neg (show ¬(x1 = 12) by omega), if_neg (show ¬(x1 = 13) by omega)] at hm
      rw [hYJ 158 (by decide) (by decide), show (x1 - 14).toNat = 1 by omega, ← (u2 1 (by decide)).1] at hm
      exact ⟨_, hm, z0 Y⟩
    by_cases x36 : x1 = 16
    · simp only [if_neg (show ¬(x1 = 0) by omega), if_neg (show ¬(x1 = 1) by omega), if_neg (show ¬(x1 = 2) by omega), if_neg (show ¬(x1 = 3) by omega), if_neg (show ¬(x1 = 4) by omega), if_neg (show ¬(x1 = 5) by omega), if_neg (show ¬(x1 = 6) by omega), if_neg (show ¬(x1 = 7) by omega), if_neg (show ¬(x1 = 8) by omega), if_neg (show ¬(x1 = 9) by omega), if_neg (show ¬(x1 = 10) by omega), if_neg (show ¬(x1 = 11) by omega), if_neg (show ¬(x1 = 12) by omega), if_neg (show ¬(x1 = 13) by omega), if_neg (show ¬(x1 = 14) by omega), if_neg (show ¬(x1 = 15) by omega), if_pos x36] at hc
      refine ok0 _ _ hc (fun b hb => rfl) (fun Y hY hYJ => ?_)
      obtain ⟨F, hm⟩ := mm Y _ hY
      simp only [if_pos (show 0 ≤ x1 ∧ x1 ≤ 16 by omega), if_neg (show ¬(x1 = 0) by omega), if_neg (show ¬(x1 = 1) by omega), if_neg (show ¬(x1 = 2) by omega), if_neg (show ¬(x1 = 3) by omega), if_neg (show ¬(x1 = 4) by omega), if_neg (show ¬(x1 = 5) by omega), if_neg (show ¬(x1 = 6) by omega), if_neg (show ¬(x1 = 7) by omega), if_neg (show ¬(x1 = 8) by omega), if_neg (show ¬(x1 = 9) by omega), if_neg (show ¬(x1 = 10) by omega), if_neg (show ¬(x1 = 11) by omega), if_neg (show ¬(x1 = 12) by omega), if_neg (show ¬(x1 = 13) by omega)] at hm
      rw [hYJ 158 (by decide) (by decide), show (x1 - 14).toNat = 2 by omega, ← (u2 2 (by decide)).1] at hm
      exact ⟨_, hm, z0 Y⟩
    simp only [if_neg (show ¬(x1 = 0) by omega), if_neg (show ¬(x1 = 1) by omega), if_neg (show ¬(x1 = 2) by omega), if_neg (show ¬(x1 = 3) by omega), if_neg (show ¬(x1 = 4) by omega), if_neg (show ¬(x1 = 5) by omega), if_neg (show ¬(x1 = 6) by omega), if_neg (show ¬(x1 = 7) by omega), if_neg (show ¬(x1 = 8) by omega), if_neg (show ¬(x1 = 9) by omega), if_neg (show ¬(x1 = 10) by omega), if_neg (show ¬(x1 = 11) by omega), if_neg (show ¬(x1 = 12) by omega), if_neg (show ¬(x1 = 13) by omega), if_neg (show ¬(x1 = 14) by omega), if_neg (show ¬(x1 = 15) by omega), if_neg (show ¬(x1 = 16) by omega)] at hc
    refine mk_thr0 h (ec := ecI) (by decide) (Ca.deep hc (by omega)) fR_refl (fun Y hY hYJ => ?_)
    obtain ⟨F, hm⟩ := mm Y _ hY
    simp only [if_neg (show ¬(0 ≤ x1 ∧ x1 ≤ 16) by omega)] at hm
    exact ⟨_, _, Ca.deep hm (by omega), up2_same _ _ _ _, fR_00⟩
  all_goals (intros; first | omega | exact IV_cSp h | exact IV_cRl h | (have := f1; rename_i k hk; rw [e3] at hk; have := (f1 (k : Int) (by omega) hk).1; rw [Int.toNat_natCast] at this; omega) | skip)
end
end
