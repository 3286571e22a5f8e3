/-! ===== calls that need a ring: extend ===== -/
noncomputable section
section
variable {d : Nat} {I J K X Y Z : Nat → Nat → Int} {S S' S1 : PS} {c T U n P R N A a2 p s r a : Nat} {dg b : Int}
theorem pc_cEd (h : pcR I A (I 159) (I 165) p) (hr : I A 3 = (r : Int)) (hs : I A 1 = (s : Int)) (e : ∀ b, b < 192 → J b = I b) (hA : A + 3 < 192) : cEd J A (r + 1 + s) (eFn I p) (jFn I p) ∧ (5 ≤ r ∧ r ≤ 7) ∧ s ≤ 7 ∧ J A 4 = (r : Int) + 1 + (s : Int) := by
  obtain ⟨H, s', r', c, ⟨g1, g1', g1'', g1'''⟩, ⟨i0, i1, i3, i4, i6⟩, ⟨m0, m1, m9, m10⟩, hsp, ⟨hed, heO⟩, hji, hjn, hje⟩ := h
  have er : r' = r := by omega
  have es : s' = s := by omega
  subst er es
  refine ⟨⟨by rw [e A (by omega), i4]; omega, by omega, fun v b hv hb => ?_, fun v b hv hb => ?_, fun v b hv hb hj => ?_⟩, g1'', by omega, by rw [e A (by omega)]; exact i4⟩
  · unfold eFn
    rw [e (A + 2) (by omega), show ((15 * (p : Int)) + (v : Int)).toNat = 15 * p + v by omega, hed v (by omega)]
  · unfold jFn
    rw [e (A + 3) (by omega), hjn v b (by omega) (by omega), jnM_sym]
  · unfold jFn at hj
    unfold eFn
    rw [show ((15 * (p : Int)) + (v : Int)).toNat = 15 * p + v by omega, hed v (by omega)]
    exact hje v b (by omega) (by omega) (by rw [jnM_sym]; exact hj)
theorem IV_A4 (h : IV c T U n P R N I S) (hp : p < P) (e : ∀ b, b ≠ T + 7 + 9 * p + 4 → J b = I b) : IV c T U n P R N J S := by
  obtain ⟨l1, l2, hT⟩ := IV_L h
  have hP := (IV_P h).1
  obtain ⟨g1, r, s, g2, g3, g4, g5⟩ := (IV_P h).2.2.2 p hp
  refine IV_su h hp g2 ⟨fun b _ h1 h2 _ _ _ _ => e b h2, fun k _ _ => by rw [e _ (by omega)]⟩ ?_ (rgI_of (IV_G h).1 (fun b hb => e b (by omega)) (fun b b1 b2 => e b (by omega))) rfS_refl
  rcases g5 with g5 | g5
  · exact Or.inl (by rw [e _ (by omega)]; exact g5)
  · exact Or.inr (tbC_of g5 (by rw [e _ (by omega)]) (by rw [e _ (by omega)]) (e _ (by omega)) (e _ (by omega)) (e _ (by omega)) (e _ (by omega)) (e _ (by omega)) (e _ (by omega)) (e _ (by omega)))
/-- the reference's extension -/
def exV (I : Nat → Nat → Int) (p F V : Nat) (code : Int) (i : Nat) : Int := match exW (eFn I p) (jFn I p) false (V - F) F (rcG (F : Int) code) with
    | some x => x (F + i)
    | none => -1
theorem ex_M {x1 x2 : Int} {F V i : Nat} (hl0 : LyX12 S) (hp1 : x1 = (p : Int)) (w : (0 ≤ x1 ∧ x1 < I 156 13) ∧ 0 ≤ x2 ∧ x2 < I 167 x1.toNat) (hF : I 159 ((20 * (p : Int)) + 9).toNat = (F : Int)) (hF7 : 1 ≤ F ∧ F ≤ 7) (hV : ((F : Int) + 1) + I 159 ((20 * (p : Int)) + 1).toNat = (V : Int)) (hs : 0 ≤ I 159 ((20 * (p : Int)) + 1).toNat ∧ I 159 ((20 * (p : Int)) + 1).toNat ≤ 7) (h10 : 0 ≤ I 159 ((20 * (p : Int)) + 10).toNat ∧ I 159 ((20 * (p : Int)) + 10).toNat ≤ 4) (hi : F + i < V) (h4 : I 156 13 ≤ 4) (hm : I 167 x1.toNat ≤ 96) : ∃ K, Ca 5 mX12_extend [vR (some (22, 0, 156)), vI x1, vI x2, vI (i : Int)] (I, S) (.inl (some (vI (exV I p F V (I 168 ((96 * x1) + x2).toNat) i)))) (K, S) ∧ K 156 0 = 0 ∧ fR U I K := by
  have w' : (0 ≤ x1 ∧ x1 < I 156 13) ∧ 0 ≤ x2 ∧ x2 < (up2 I 156 0 0) 167 x1.toNat := by rw [up2_a _ (by decide)]; exact w
  obtain ⟨Z, hZ⟩ : ∃ Z, Z = up2 I 156 0 0 := ⟨_, rfl⟩
  have zb : ∀ b, b ≠ 156 → Z b = I b := fun b hb => by rw [hZ]; exact funext (fun j => up2_a _ hb)
  subst hp1
  have hE : mEd Z (p : Int) V (eFn I p) (jFn I p) := by
    refine ⟨by omega, by omega, by rw [zb 159 (by decide)]; exact h10, fun v a _ _ => ?_, fun v a _ _ => ?_⟩
    · rw [zb 165 (by decide)]; rfl
    · rw [zb 159 (by decide)]; rfl
  obtain ⟨J, j1, j2, j3⟩ := dx_M (d := 2) (w := false) (S := S) (code := I 168 ((96 * (p : Int)) + x2).toNat) hl0 hE (by rw [zb 159 (by decide)]; exact hF) hF7 (by rw [zb 159 (by decide)]; exact hV) (by rw [zb 159 (by decide)]; exact hs)
  have j59 : J 159 = I 159 := by rw [j2 159 (by decide), zb 159 (by decide)]
  have hF' : J 159 ((20 * (p : Int)) + 9).toNat = (F : Int) := by rw [j59]; exact hF
  obtain ⟨z, hz⟩ : ∃ z, z = (exW (eFn I p) (jFn I p) false (V - F) F (rcG (F : Int) (I 168 ((96 * (p : Int)) + x2).toNat))).isSome := ⟨_, rfl⟩
  rw [← hz, hZ] at j1
  have in1 : ¬(I 159 ((20 * (p : Int)) + 9).toNat + 1 + I 159 ((20 * (p : Int)) + 1).toNat - I 159 ((20 * (p : Int)) + 9).toNat ≤ (i : Int)) := by rw [hF]; omega
  refine ⟨J, ?_, by rw [j2 156 (by decide), hZ, up2_same], ?_⟩
  · refine w_X12_extend_0 (d := 0) (I := I) (S := S) (J1 := I) (J2 := I) (J3 := J) (z1 := false) (z2 := false) (z3 := z) (h1 := (J, S)) (x1 := (p : Int)) (x2 := x2) (x3 := (i : Int)) hl0 (fun _ q => absurd q (by omega)) (fun _ _ q => absurd q in1) (fun _ _ _ _ => j1) (r1 := fun _ _ q => q.elim) (e1 := fun _ _ q => q.elim) (r2 := fun _ _ q => q.elim) (e2 := fun _ _ q => q.elim) (r3 := fun _ q => absurd q (by omega)) (e3 := fun _ q => absurd q (by omega)) (r4 := fun _ _ q => absurd q in1) (e4 := fun _ _ q => absurd q in1) (r5 := fun _ _ q => absurd q in1) (e5 := fun _ _ q => absurd q in1) (r6 := fun _ _ q => absurd q in1) (e6 := fun _ _ q => absurd q in1) (r7 := fun _ _ _ _ q => ?_) (e7 := fun _ _ _ _ _ => rfl) (r8 := fun _ _ _ _ q => ?_) (e8 := fun _ _ _ _ _ => rfl) (r9 := fun _ _ _ q => absurd trivial q) (e9 := fun _ _ _ q => absurd trivial q) (r10 := fun q => absurd w' q) (e10 := fun q => absurd w' q)
    case refine_1 =>
      unfold exV
      rw [hz] at q
      cases e : exW (eFn I p) (jFn I p) false (V - F) F (rcG (F : Int) (I 168 ((96 * (p : Int)) + x2).toNat)) with
      | none => rfl
      | some x => rw [e] at q; exact absurd rfl q
    case refine_2 =>
      unfold exV
      rw [hz] at q
      cases e : exW (eFn I p) (jFn I p) false (V - F) F (rcG (F : Int) (I 168 ((96 * (p : Int)) + x2).toNat)) with
      | none => rw [e] at q; exact absurd q (by decide)
      | some x =>
        have := j3 x e (F + i) hi
        rw [hF', show ((F : Int) + (i : Int)).toNat = F + i by omega]
        exact this
    all_goals (intros; first | omega | (rw [hF'] at *; omega) | skip)
  · refine fR_trans (fR_0 (v := 0)) (fR_scr (fun a ha => ?_))
    rw [j2 a (fun e => ha ⟨by rw [e]; unfold scr; omega, by omega⟩), hZ]
theorem ex_N {x1 x2 x3 : Int} (hl0 : LyX12 S) (h4 : I 156 13 ≤ 4) (hr : 0 ≤ x1 → x1 < I 156 13 → (0 ≤ I 159 ((20 * x1) + 9).toNat ∧ I 159 ((20 * x1) + 9).toNat ≤ 7) ∧ 0 ≤ I 159 ((20 * x1) + 1).toNat ∧ I 159 ((20 * x1) + 1).toNat ≤ 7) (w : ¬(((0 ≤ x1 ∧ x1 < I 156 13) ∧ 0 ≤ x2 ∧ x2 < I 167 x1.toNat) ∧ 0 ≤ x3 ∧ x3 ≤ I 159 ((20 * x1) + 1).toNat)) : Ca 5 mX12_extend [vR (some (22, 0, 156)), vI x1, vI x2, vI x3] (I, S) (.inl (some (vI 0))) (up2 (up2 I 156 0 0) 156 0 1, S) := by
  have e : (up2 I 156 0 0) 167 x1.toNat = I 167 x1.toNat := up2_a _ (by decide)
  have n : ∀ {G : Prop}, ((0 ≤ x1 ∧ x1 < I 156 13) ∧ 0 ≤ x2 ∧ x2 < (up2 I 156 0 0) 167 x1.toNat) → 0 ≤ x3 → (x3 < I 159 ((20 * x1) + 9).toNat + 1 + I 159 ((20 * x1) + 1).toNat - I 159 ((20 * x1) + 9).toNat) → G := fun q1 q2 q3 => absurd (show ((0 ≤ x1 ∧ x1 < I 156 13) ∧ 0 ≤ x2 ∧ x2 < I 167 x1.toNat) ∧ 0 ≤ x3 ∧ x3 ≤ I 159 ((20 * x1) + 1).toNat by rw [← e]; exact ⟨q1, q2, by omega⟩) w
  exact w_X12_extend_0 (d := 0) (I := I) (S := S) (J1 := I) (J2 := I) (J3 := I) (z1 := false) (z2 := false) (z3 := false) (x1 := x1) (x2 := x2) (x3 := x3) hl0 (fun _ _ q => q.elim) (fun _ _ _ q => q.elim) (fun q1 q2 q3 _ => n q1 q2 q3) (r1 := fun _ _ q => q.elim) (e1 := fun _ _ q => q.elim) (r2 := fun _ _ q => q.elim) (e2 := fun _ _ q => q.elim) (r3 := fun _ _ _ => rfl) (e3 := fun _ _ _ => rfl) (r4 := fun _ _ _ q => q.elim) (e4 := fun _ _ _ q => q.elim) (r5 := fun _ _ _ q => q.elim) (e5 := fun _ _ _ q => q.elim) (r6 := fun _ _ _ _ => rfl) (e6 := fun _ _ _ _ => rfl) (r7 := fun q1 q2 q3 _ => n q1 q2 q3) (e7 := fun q1 q2 q3 _ => n q1 q2 q3) (r8 := fun q1 q2 q3 _ => n q1 q2 q3) (e8 := fun q1 q2 q3 _ => n q1 q2 q3) (r9 := fun _ _ _ q => absurd trivial q) (e9 := fun _ _ _ q => absurd trivial q) (r10 := fun _ => rfl) (e10 := fun _ => rfl) (v1 := fun _ _ => by omega) (v2 := fun _ _ q => q.elim) (v3 := fun _ _ q => q.elim) (v4 := fun _ _ q => q.elim) (v5 := fun _ _ q _ => q.elim) (v6 := fun _ _ q _ => q.elim) (v7 := fun _ _ q _ => q.elim) (v8 := fun _ _ => by omega) (v9 := fun q1 _ => by have := hr q1.1.1 q1.1.2; omega) (v10 := fun q1 _ => by have := hr q1.1.1 q1.1.2; omega) (v11 := fun q1 _ => by have := hr q1.1.1 q1.1.2; omega) (v12 := fun _ _ _ q => q.elim) (v13 := fun _ _ _ q => q.elim) (v14 := fun _ _ _ q => q.elim) (v15 := fun _ _ _ q _ => q.elim) (v16 := fun _ _ _ q _ => q.elim) (v17 := fun q1 q2 q3 _ => n q1 q2 q3) (v18 := fun q1 q2 q3 _ => n q1 q2 q3) (v19 := fun q1 q2 q3 _ => n q1 q2 q3) (v20 := fun q1 q2 q3 _ _ => n q1 q2 q3) (v21 := fun q1 q2 q3 _ _ => n q1 q2 q3)
theorem pu_extend {x1 x2 x3 : Int} (h : IV c T U n P R N I S) : outC c mX11_extend mX12_extend ecI [vI x1, vI x2, vI x3] I S := by
  obtain ⟨l1, l2, hT⟩ := IV_L h
  obtain ⟨⟨b1, b2, b3⟩, ⟨e1, e2, e3⟩, f1, f2, f3⟩ := fc_IV h
  by_cases w : 0 ≤ x1 ∧ x1 < (P : Int)
  · obtain ⟨p, hp⟩ : ∃ p : Nat, x1 = (p : Int) := ⟨x1.toNat, by omega⟩
    have hpP : p < P := by omega
    subst hp
    obtain ⟨r, a, J, S1, hr, q1, ⟨q2, q3⟩, q4, q5, q6, ⟨q7, q8, q9⟩, q10⟩ := rg_IV h hpP
    obtain ⟨z1, z2, z3, z4⟩ := rgO_z q3
    have hln := ln_96 hr
    have hj := IV_rf h q5 q4
    have yr : ∀ (Y : Nat → Nat → Int), (∀ b, b < 191 → Y b = I b) → Y 159 ((20 * (p : Int)) + 9).toNat = (r : Int) ∧ (up2 Y 156 0 0) 167 (p : Int).toNat = (lnC r : Int) ∧ ∀ x : Int, 0 ≤ x → x < (lnC r : Int) → Y 168 ((96 * (p : Int)) + x).toNat = J (a + 1) x.toNat := fun Y hYI =>
      ⟨by rw [hYI 159 (by decide), show ((20 * (p : Int)) + 9).toNat = 20 * p + 9 by omega]; exact q8, by rw [up2_a _ (by decide), hYI 167 (by decide), Int.toNat_natCast]; exact q9.1, fun x h0 h1 => by
        rw [hYI 168 (by decide), z4 x.toNat (by omega), show ((96 * (p : Int)) + x).toNat = 96 * p + x.toNat by omega]
        exact q9.2.1 x.toNat (by omega)⟩
    obtain ⟨g1, r', s, g2, g3, g4, g5⟩ := (IV_P h).2.2.2 p hpP
    have er : r' = r := by omega
    subst er
    obtain ⟨E, ⟨r5, r7⟩, s7, v4⟩ := pc_cEd (J := J) g1 g2 g3 q5.1 (by omega)
    have jA : J (T + 7 + 9 * p) = I (T + 7 + 9 * p) := q5.1 _ (by omega)
    have ms : I 159 ((20 * (p : Int)) + 1).toNat = (s : Int) ∧ (0 ≤ I 159 ((20 * (p : Int)) + 10).toNat ∧ I 159 ((20 * (p : Int)) + 10).toNat ≤ 4) := by
      obtain ⟨H, s', r', cc, e1, e2, e3, e4⟩ := g1
      rw [show ((20 * (p : Int)) + 1).toNat = 20 * p + 1 by omega, show ((20 * (p : Int)) + 10).toNat = 20 * p + 10 by omega]
      omega
    obtain ⟨i, hi⟩ : ∃ i : Nat, i = x3.toNat := ⟨_, rfl⟩
    have fx : ∀ code : Int, (0 ≤ x3 ∧ x3 ≤ (s : Int)) → ∃ J2, Ca 33 mX3_firstExtension [vR (some (14, 0, T + 7 + 9 * p)), vR (some (16, 0, a)), vI code, vI x3] (J, S1) (.inl (some (vI (exV I p r' (r' + 1 + s) code i)))) (J2, S1) ∧ ∀ b, b ≠ T + 7 + 9 * p + 4 → J2 b = J b := fun code w3 => by
      obtain ⟨J2, t1, t2⟩ := fx_C (d := 12) (S := S1) (code := code) (i := i) (F := r') (V := r' + 1 + s) (ly_X0_q (ly_X11_c q6) (show p < 4 by omega)) z1 E (by rw [jA]; exact g2) z2 r7 (by omega) (by omega) (by omega)
      rw [show ((i : Nat) : Int) = x3 by omega] at t1
      exact ⟨J2, t1, t2⟩
    obtain ⟨J2, hJ2⟩ : ∃ J2, (0 ≤ x3 ∧ x3 ≤ (s : Int)) → Ca 33 mX3_firstExtension [vR (some (14, 0, T + 7 + 9 * p)), vR (some (16, 0, a)), vI (J (a + 1) x2.toNat), vI x3] (J, S1) (.inl (some (vI (exV I p r' (r' + 1 + s) (J (a + 1) x2.toNat) i)))) (J2, S1) ∧ ∀ b, b ≠ T + 7 + 9 * p + 4 → J2 b = J b := by
      by_cases w3 : 0 ≤ x3 ∧ x3 ≤ (s : Int)
      · obtain ⟨J2, t⟩ := fx (J (a + 1) x2.toNat) w3
        exact ⟨J2, fun _ => t⟩
      · exact ⟨J, fun q => absurd q w3⟩
    have jA1 : J (T + 7 + 9 * p) 1 = (s : Int) := by rw [jA]; exact g3
    refine (fun hc => ?m1) (c_X11_extend (d := 10) (I := I) (S := S) (x1 := (p : Int)) (x2 := x2) (x3 := x3) (J1 := J) (S1 := S1) (z1 := a) (J2 := J2) (z2 := exV I p r' (r' + 1 + s) (J (a + 1) x2.toNat) i) l1 ?_ ?_ ?_ (fun _ => by rw [Int.toNat_natCast]; exact q1) (fun _ => q6) (fun _ => z1) (fun _ _ q1 q2 => by rw [Int.toNat_natCast] at q2 ⊢; exact (hJ2 ⟨q1, by rw [← jA1]; exact q2⟩).1))
    case m1 =>
      rw [e1, z3, Int.toNat_natCast, jA1] at hc
      simp only [if_pos w] at hc
      have bad : Ca 34 mX11_extend [vR (some (21, 0, 31)), vI (p : Int), vI x2, vI x3] (I, S) (.inr 1) (J, exS S1) → (¬((0 ≤ x2 ∧ x2 < (lnC r' : Int)) ∧ (0 ≤ x3 ∧ x3 ≤ (s : Int)))) → outC c mX11_extend mX12_extend ecI [vI (p : Int), vI x2, vI x3] I S := fun hc w2 => by
        refine mk_thr h (ec := ecI) (by decide) (Ca.deep hc (by omega)) (rf_fQ q5) (rf_C (IV_C h) q5) q4 (rf_rfS q5) (fun Y hY hYJ => ?_)
        obtain ⟨_, ⟨m1, m2, m3⟩, g1, g2, g3⟩ := fm_IV hY
        obtain ⟨y1, y2, y3⟩ := yr Y (fun b hb => rf_Y q5 hYJ hb)
        rw [up2_a _ (by decide)] at y2
        have y9 : Y 159 = I 159 := rf_Y q5 hYJ (by decide)
        exact ⟨_, _, Ca.deep (ex_N (IV_L hY).2.1 (by omega) (fun _ _ => by rw [y1, y9, ms.1]; omega) (by rw [y2, y9, ms.1]; exact fun z => w2 ⟨z.1.2, z.2⟩)) (by omega), up2_same _ _ _ _, fR_00⟩
      by_cases w2 : 0 ≤ x2 ∧ x2 < (lnC r' : Int)
      · simp only [if_pos w2] at hc
        by_cases w3 : x3 < 0
        · simp only [if_pos w3] at hc
          exact bad hc (by omega)
        simp only [if_neg w3] at hc
        by_cases w6 : x3 ≤ (s : Int)
        · simp only [if_pos w6] at hc
          have t2 := (hJ2 ⟨by omega, w6⟩).2
          refine mk_okI (Ca.deep hc (by omega)) (IV_c (IV_A4 hj hpP t2) (by omega)) ((t2 0 (by omega)).trans (q5.1 0 (by omega))) (fun Y hY hYJ => ?_)
          obtain ⟨_, ⟨m1, m2, m3⟩, g1, g2, g3⟩ := fm_IV hY
          have yb : ∀ b, 120 ≤ b → b < 191 → Y b = I b := fun b b0 hb => by rw [hYJ b (by omega), t2 b (by omega), q5.1 b (by omega)]
          have y1 : Y 159 ((20 * (p : Int)) + 9).toNat = (r' : Int) := by rw [yb 159 (by decide) (by decide), show ((20 * (p : Int)) + 9).toNat = 20 * p + 9 by omega]; exact q8
          have y2 : Y 167 (p : Int).toNat = (lnC r' : Int) := by rw [yb 167 (by decide) (by decide), Int.toNat_natCast]; exact q9.1
          have y3 : Y 168 ((96 * (p : Int)) + x2).toNat = J (a + 1) x2.toNat := by
            rw [yb 168 (by decide) (by decide), z4 x2.toNat (by omega), show ((96 * (p : Int)) + x2).toNat = 96 * p + x2.toNat by omega]
            exact q9.2.1 x2.toNat (by omega)
          have y9 : Y 159 = I 159 := yb 159 (by decide) (by decide)
          have y5 : Y 165 = I 165 := yb 165 (by decide) (by decide)
          obtain ⟨K, k1, k2, k3⟩ := ex_M (I := Y) (S := S1) (U := U) (p := p) (x2 := x2) (F := r') (V := r' + 1 + s) (i := i) (IV_L hY).2.1 rfl (by rw [m1, y2]; exact ⟨w, w2⟩) y1 (by omega) (by rw [y9, ms.1]; omega) (by rw [y9, ms.1]; omega) (by rw [y9]; exact ms.2) (by omega) (by omega) (by rw [y2]; omega)
          rw [y3, show ((i : Nat) : Int) = x3 by omega] at k1
          have ev : exV Y p r' (r' + 1 + s) (J (a + 1) x2.toNat) i = exV I p r' (r' + 1 + s) (J (a + 1) x2.toNat) i := by
            unfold exV eFn jFn
            rw [y9, y5]
          rw [ev] at k1
          exact ⟨K, Ca.deep k1 (by omega), k2, k3⟩
        · simp only [if_neg w6] at hc
          exact bad hc (by omega)
      · simp only [if_neg w2] at hc
        exact bad hc (by omega)
    all_goals (intros; first | omega | (rw [z2] at *; omega) | (rw [z3] at *; omega) | skip)
  · refine (fun hc => ?m1) (c_X11_extend (d := 0) (I := I) (S := S) (x1 := x1) (x2 := x2) (x3 := x3) (J1 := I) (S1 := S) (z1 := 0) (J2 := I) (z2 := 0) l1 ?_ ?_ ?_ (fun q => absurd (show 0 ≤ x1 ∧ x1 < (P : Int) by omega) w) (fun q => absurd (show 0 ≤ x1 ∧ x1 < (P : Int) by omega) w) (fun q => absurd (show 0 ≤ x1 ∧ x1 < (P : Int) by omega) w) (fun q => absurd (show 0 ≤ x1 ∧ x1 < (P : Int) by omega) w))
    case m1 =>
      rw [e1] at hc
      simp only [if_neg w] at hc
      refine mk_thr0 h (ec := ecI) (by decide) (Ca.deep hc (by omega)) fR_refl (fun Y hY hYJ => ?_)
      obtain ⟨_, ⟨m1, m2, m3⟩, g1, g2, g3⟩ := fm_IV hY
      exact ⟨_, _, Ca.deep (ex_N (IV_L hY).2.1 (by omega) (fun q1 q2 => absurd (show 0 ≤ x1 ∧ x1 < (P : Int) by omega) w) (by rw [m1]; exact fun z => w z.1.1)) (by omega), up2_same _ _ _ _, fR_00⟩
    all_goals (intros; first | omega | skip)
end
end
