/-! ===== open spots, lacks and nets ===== -/
noncomputable section
section
variable {d : Nat} {I J : Nat → Nat → Int} {S : PS}
theorem snC_fr {a a5 : Nat} (h1 : J (a + 1) = I (a + 1)) (h2 : J a5 = I a5) (x y z w : Int) : ∀ n : Nat, snC J a a5 x y z w n = snC I a a5 x y z w n
  | 0 => rfl
  | n + 1 => by
    rw [snC_succ, snC_succ, snC_fr h1 h2 x y z w n, h2, show q_X7_applies J a n x y z w = q_X7_applies I a n x y z w by unfold q_X7_applies; rw [h1]]
theorem ccs_fr {T : Nat} {s : Int} (h : ∀ a, a = T + 2 ∨ a = T + 3 ∨ a = T + 4 ∨ a = T + 6 ∨ a = 129 → J a = I a) : ccs J T s = ccs I T s := by
  have e1 : sC J T = sC I T := by
    funext x y z w
    unfold sC
    rw [h (T + 2) (by omega), snC_fr (a := T + 2) (h (T + 2 + 1) (by omega)) (h 129 (by omega))]
  have e2 : nbC J T s = nbC I T s := by
    funext j
    unfold nbC
    rw [h (T + 4) (by omega), h (T + 6) (by omega)]
  unfold ccs
  rw [e1, e2, h (T + 4) (by omega)]
theorem cSp_fr {T : Nat} (h : ∀ a, a = T ∨ a = T + 4 ∨ a = T + 6 → J a = I a) (hm : cSp I T) : cSp J T := by
  unfold cSp
  rw [h T (by omega), h (T + 4) (by omega), h (T + 6) (by omega)]
  exact hm
theorem cRl_fr {T : Nat} (h : ∀ a, a = T + 2 ∨ a = 129 → J a = I a) (hm : cRl I T) : cRl J T := by
  unfold cRl
  rw [h (T + 2) (by omega), h 129 (by omega)]
  exact hm
theorem hlB_congr {hub n dg : Int} {sp f f' : Nat → Int} (hd : 1 ≤ dg) (h : ∀ k : Nat, (k : Int) < dg → f k = f' k) : hlB hub n dg sp f = hlB hub n dg sp f' := by
  have e1 : ∀ z : Int, f (z % dg).toNat = f' (z % dg).toNat := fun z => h _ (by
    have h1 := Int.emod_nonneg z (show dg ≠ 0 by omega)
    have h2 := Int.emod_lt_of_pos z (show 0 < dg by omega)
    omega)
  unfold hlB
  rw [anyB_congr (p := hlP n dg sp f) (q := hlP n dg sp f') (fun fr _ => ?_)]
  unfold hlP
  rw [allB_congr (p := fun k => decide (f (((fr : Int) + (k : Int)) % dg).toNat = sp k)) (q := fun k => decide (f' (((fr : Int) + (k : Int)) % dg).toNat = sp k)) (fun k _ => by show decide (f _ = sp k) = decide (f' _ = sp k); rw [e1]),
    allB_congr (p := fun k => decide (f (((fr : Int) + dg - (k : Int)) % dg).toNat = sp k)) (q := fun k => decide (f' (((fr : Int) + dg - (k : Int)) % dg).toNat = sp k)) (fun k _ => by show decide (f _ = sp k) = decide (f' _ = sp k); rw [e1])]
/-- pieces that a spot of the class's map holds, as bits -/
def hsC (I : Nat → Nat → Int) (T : Nat) (s : Int) : Int := btN (fun p => hlB (I (T + 7 + 9 * p) 0) (I (T + 7 + 9 * p) 1) (I (T + 4) s.toNat) (I (T + 7 + 9 * p + 1)) (nbC I T s)) (I T 1).toNat
theorem ho_hs {T : Nat} (hT : T = 34 ∨ T = 77) {s : Int} (hJ : ∀ a, a ≠ 152 → J a = I a) (hG : ∀ j : Nat, (j : Int) < I (T + 4) s.toNat → J 152 j = nbC I T s j) (hd : 1 ≤ I (T + 4) s.toNat) (hp : I T 1 ≤ 4) : hoC J T 152 (I (T + 4) s.toNat) (I T 1).toNat = hsC I T s := by
  rw [hoC_bt]
  unfold hsC
  refine btN_congr (fun p hp' => ?_)
  rw [heC_hl hd, hJ (T + 7 + 9 * p) (by omega), hJ (T + 7 + 9 * p + 1) (by omega)]
  exact hlB_congr hd hG
def cPi (I : Nat → Nat → Int) (T : Nat) : Prop := (0 ≤ I T 1 ∧ I T 1 ≤ 4) ∧ ∀ p : Nat, (p : Int) < I T 1 → 0 ≤ I (T + 7 + 9 * p) 1 ∧ I (T + 7 + 9 * p) 1 ≤ 7
theorem ro_row {T : Nat} {s : Int} (h4 : J (T + 4) = I (T + 4)) (h6 : J (T + 6) = I (T + 6)) {j : Nat} (hj : (j : Int) < I (T + 4) s.toNat) : roI J T 152 s 152 j = nbC I T s j := by
  unfold roI
  rw [up1_same, upTo_in (by rw [h4]; omega), h4, h6]
  rfl
theorem os_C {x1 x2 v : Int} {T U : Nat} (hl0 : LyX11 S T U) (hT : T = 34 ∨ T = 77) (hm : cSp I T) (hp : cPi I T) (hx : isI x1) (hv : isI v) (hb : ∀ i : Nat, i < 32 → bt v i = (bt x1 i && (!decide (i < (I T 6).toNat) || decide (p_and (hsC I T i) x2 = 0)))) :
    ∃ J, Ca (d + 4) mX11_openSpots [vR (some (21, 0, 31)), vI x1, vI x2] (I, S) (.inl (some (vI v))) (J, S) ∧ ∀ a, a ≠ 152 → J a = I a := by
  have hm1 := hm.1
  have lp : ∀ (t k : Nat) (J : Nat → Nat → Int) (x3 : Int), k + t = (I T 6).toNat → (∀ a, a ≠ 152 → J a = I a) → isI x3 → (∀ i : Nat, i < 32 → bt x3 i = (bt x1 i && (!decide (i < k) || decide (p_and (hsC I T i) x2 = 0)))) →
      ∃ J', L_X11_openSpots_5 d 31 x1 x2 x3 k J S v (J', S) ∧ ∀ a, a ≠ 152 → J' a = I a := by
    intro t
    induction t with
    | zero =>
      intro k J x3 hk hJ h3 hb3
      have eT : J T 6 = I T 6 := by rw [hJ T (by omega)]
      refine ⟨J, w_X11_openSpots_5 hl0 (fun h => absurd h (by omega)) (fun _ => bt_ext h3 hv (fun i hi => ?_)) (e1 := fun _ => rfl) (v1 := fun h => absurd h (by omega)) (v2 := fun h => absurd h (by omega)) (v3 := fun h => absurd h (by omega)) (v7 := fun h => absurd h (by omega)) (v8 := fun h => absurd h (by omega)) (v9 := fun h => absurd h (by omega)), hJ⟩
      rw [hb3 i hi, hb i hi, show k = (I T 6).toNat by omega]
    | succ t ih =>
      intro k J x3 hk hJ h3 hb3
      have eT : J T 6 = I T 6 := by rw [hJ T (by omega)]
      have e4 : J (T + 4) = I (T + 4) := hJ _ (by omega)
      have e6 : J (T + 6) = I (T + 6) := hJ _ (by omega)
      have hs := hm.2 k (by omega) (by omega)
      have hd := hs.1
      have eho : hoC (roI J T 152 k) T 152 ((roI J T 152 k) (T + 4) ((k : Int)).toNat) ((roI J T 152 k) T 1).toNat = hsC I T k := by
        rw [roI_a (I := J) (T := T) (a := T + 4) (s := k) (by omega), roI_a (I := J) (T := T) (a := T) (s := k) (by omega), e4, hJ T (by omega)]
        exact ho_hs hT (fun a h => by rw [roI_a h]; exact hJ a h) (fun j hj => ro_row e4 e6 hj) hd.1 hp.1.2
      have hJ' : ∀ a, a ≠ 152 → roI J T 152 k a = I a := fun a h => by rw [roI_a h]; exact hJ a h
      have go : ∀ y : Int, y = (if p_and (hsC I T k) x2 = 0 then x3 else p_and x3 (p_xor (p_shl 1 (k : Int)) (-1))) → isI y ∧ ∀ i : Nat, i < 32 → bt y i = (bt x1 i && (!decide (i < k + 1) || decide (p_and (hsC I T i) x2 = 0))) := by
        intro y hy
        by_cases c : p_and (hsC I T k) x2 = 0
        · rw [if_pos c] at hy
          subst hy
          refine ⟨h3, fun i hi => ?_⟩
          rw [hb3 i hi]
          by_cases e : i = k
          · rw [e, decide_eq_true c, Bool.or_true, Bool.or_true]
          · rw [show decide (i < k + 1) = decide (i < k) from decide_eq_decide.mpr (by omega)]
        · rw [if_neg c] at hy
          subst hy
          refine ⟨isI_and _ _, fun i hi => ?_⟩
          rw [bt_and, bt_not hi, bt_bit (by omega), hb3 i hi, Int.toNat_natCast]
          by_cases e : i = k
          · rw [e, decide_eq_true (show k = k from rfl), decide_eq_false c, decide_eq_true (show k < k + 1 by omega)]
            simp
          · rw [show decide (i < k + 1) = decide (i < k) from decide_eq_decide.mpr (by omega), decide_eq_false e]
            simp
      obtain ⟨hy1, hy2⟩ := go _ rfl
      obtain ⟨J', g1, g2⟩ := ih (k + 1) (roI J T 152 k) _ (by omega) hJ' hy1 hy2
      refine ⟨J', w_X11_openSpots_5 hl0 (fun _ => ?_) (fun h => absurd h (by omega)) (e1 := fun h => absurd h (by omega)) (v1 := fun _ => by omega) (v2 := fun _ => by rw [e4]; omega) (v3 := fun _ j hj => by rw [e4] at hj; have := hs.2 j hj; rw [e6]; omega) (v7 := fun _ => by rw [roI_a (by omega), e4]; exact hd) (v8 := fun _ => by rw [roI_a (by omega), hJ T (by omega)]; exact hp.1) (v9 := fun _ p hq => by rw [roI_a (by omega), hJ T (by omega)] at hq; rw [roI_a (by have := hp.1; omega), hJ _ (by have := hp.1; omega)]; exact hp.2 p hq), g2⟩
      rw [eho]
      exact g1
  obtain ⟨J', g1, g2⟩ := lp (I T 6).toNat 0 I x1 (by omega) (fun _ _ => rfl) hx (fun i hi => by rw [decide_eq_false (Nat.not_lt_zero i), Bool.not_false, Bool.true_or, Bool.and_true])
  exact ⟨J', w_X11_openSpots_0 hl0 g1, g2⟩
/-- pieces that a spot of the reference's map holds; whether it is covered -/
def hsM (I : Nat → Nat → Int) (s : Int) : Int := btN (fun p => hlB (I 159 (20 * (p : Int)).toNat) (I 159 ((20 * (p : Int)) + 1).toNat) (I 161 (10 * s).toNat) (fun k => I 159 (((20 * (p : Int)) + 2) + (k : Int)).toNat) (nbD I s)) ((I 156 13)).toNat
def cvdS (I : Nat → Nat → Int) (s : Int) : Bool := anyB (fun p => bt (hsM I s) p && rdM I p) ((I 156 13)).toNat
theorem hoM_hs {G : Nat → Int} {s : Int} (hd : 1 ≤ (I 161 (10 * s).toNat)) (hG : ∀ j : Nat, (j : Int) < (I 161 (10 * s).toNat) → G j = nbD I s j) : hoM (up1 I 177 G) (I 161 (10 * s).toNat) ((I 156 13)).toNat = hsM I s := by
  rw [hoM_bt]
  unfold hsM
  refine btN_congr (fun p _ => ?_)
  rw [hdM_hl]
  exact hlB_congr hd hG
theorem cv_cvdS {G : Nat → Int} {s : Int} (hd : 1 ≤ (I 161 (10 * s).toNat)) (hG : ∀ j : Nat, (j : Int) < (I 161 (10 * s).toNat) → G j = nbD I s j) : cvM (up1 I 177 G) (I 161 (10 * s).toNat) = cvdS I s := by
  unfold cvM cvdS
  rw [← hoM_hs hd hG]
  rfl
theorem oo_M (hl0 : LyX12 S) (hm : mSp I) (hr : mRl I 0) (hp : mPs I) : ∃ F, Ca (d + 5) mX12_openOnes [vR (some (22, 0, 156))] (I, S) (.inl (some (vI (btN (fun s => decide (0 < mcs I 0 s) && !cvdS I s) ((I 156 15)).toNat)))) (up1 I 177 F, S) := by
  have hm1 := hm.1
  have lp : ∀ (t k : Nat) (F : Nat → Int), k + t = ((I 156 15)).toNat → ∃ F', L_X12_openOnes_4 d 156 (btN (fun s => decide (0 < mcs I 0 s) && !cvdS I s) k) k (up1 I 177 F) S (btN (fun s => decide (0 < mcs I 0 s) && !cvdS I s) ((I 156 15)).toNat) (up1 I 177 F', S) := by
    intro t
    induction t with
    | zero =>
      intro k F hk
      have eT : (up1 I 177 F) 156 15 = (I 156 15) := rfl
      obtain rfl : k = ((I 156 15)).toNat := by omega
      exact ⟨F, w_X12_openOnes_4 hl0 (fun h => absurd h (by omega)) (fun h => absurd h (by omega)) (fun _ => rfl) (e1 := fun _ => rfl) (v1 := fun _ => mSp_up hm) (v2 := fun _ => mRl_up hr) (v3 := fun h => absurd h (by omega)) (v4 := fun h => absurd h (by omega)) (v5 := fun h => absurd h (by omega)) (v6 := fun h => absurd h (by omega)) (v7 := fun h => absurd h (by omega)) (v8 := fun h => absurd h (by omega))⟩
    | succ t ih =>
      intro k F hk
      have eT : (up1 I 177 F) 156 15 = (I 156 15) := rfl
      have hs := hm.2 k (by omega) (by omega)
      have hd := hs.1
      have em : mcs (up1 I 177 F) 0 k = mcs I 0 k := mcs_up I F 0 k
      by_cases c : 0 < mcs I 0 k
      · have eh : lnI (lnI (up1 I 177 F) k) k = up1 I 177 (upTo (upTo F (nbD I k) 0 (I 161 (10 * (k : Int)).toNat).toNat) (nbD I k) 0 (I 161 (10 * (k : Int)).toNat).toNat) := by rw [lnI_sc, lnI_sc]
        obtain ⟨F', g1⟩ := ih (k + 1) (upTo (upTo F (nbD I k) 0 (I 161 (10 * (k : Int)).toNat).toNat) (nbD I k) 0 (I 161 (10 * (k : Int)).toNat).toNat) (by omega)
        refine ⟨F', w_X12_openOnes_4 hl0 (fun _ _ => ?_) (fun _ h => absurd h (by omega)) (fun h => absurd h (by omega)) (e1 := fun h => absurd h (by omega)) (v1 := fun _ => mSp_up hm) (v2 := fun _ => mRl_up hr) (v3 := fun _ => by omega) (v4 := fun _ _ => by omega) (v5 := fun _ _ => by show 0 ≤ (I 161 (10 * (k : Int)).toNat) ∧ (I 161 (10 * (k : Int)).toNat) ≤ 9; omega) (v6 := fun _ _ j hj => by have := hs.2 j hj; show 0 ≤ I 161 (((10 * (k : Int)) + 1) + (j : Int)).toNat ∧ I 161 (((10 * (k : Int)) + 1) + (j : Int)).toNat < 12; omega) (v7 := fun _ _ => hp) (v8 := fun _ _ => hd)⟩
        rw [eh]
        have ec : cvM (up1 I 177 (upTo (upTo F (nbD I k) 0 (I 161 (10 * (k : Int)).toNat).toNat) (nbD I k) 0 (I 161 (10 * (k : Int)).toNat).toNat)) ((up1 I 177 F) 161 (10 * (k : Int)).toNat) = cvdS I k := cv_cvdS hd.1 (fun j hj => upTo_in (by omega))
        rw [ec]
        have st : p_or (btN (fun s => decide (0 < mcs I 0 s) && !cvdS I s) k) (if ¬(cvdS I k = true) then (p_shl 1 (k : Int) : Int) else 0) = btN (fun s => decide (0 < mcs I 0 s) && !cvdS I s) (k + 1) := by
          show _ = if (decide (0 < mcs I 0 k) && !cvdS I k) = true then _ else _
          rw [decide_eq_true c, Bool.true_and]
          cases cvdS I k with
          | true => rw [if_neg (by decide), if_neg (by decide)]; exact p_or_0 (btN_isI _ _)
          | false => rw [if_pos (by decide), if_pos (by decide)]
        rw [st]
        exact g1
      · obtain ⟨F', g1⟩ := ih (k + 1) (upTo F (nbD I k) 0 (I 161 (10 * (k : Int)).toNat).toNat) (by omega)
        refine ⟨F', w_X12_openOnes_4 hl0 (fun _ h => absurd h (by omega)) (fun _ _ => ?_) (fun h => absurd h (by omega)) (e1 := fun h => absurd h (by omega)) (v1 := fun _ => mSp_up hm) (v2 := fun _ => mRl_up hr) (v3 := fun _ => by omega) (v4 := fun _ h => absurd h (by omega)) (v5 := fun _ h => absurd h (by omega)) (v6 := fun _ h => absurd h (by omega)) (v7 := fun _ h => absurd h (by omega)) (v8 := fun _ h => absurd h (by omega))⟩
        rw [lnI_sc]
        have st : btN (fun s => decide (0 < mcs I 0 s) && !cvdS I s) (k + 1) = btN (fun s => decide (0 < mcs I 0 s) && !cvdS I s) k := by
          show (if (decide (0 < mcs I 0 k) && !cvdS I k) = true then _ else _) = _
          rw [decide_eq_false c, Bool.false_and, if_neg (by decide)]
        rw [st] at g1
        exact g1
  obtain ⟨F', g1⟩ := lp ((I 156 15)).toNat 0 (I 177) (by omega)
  rw [up1_self] at g1
  exact ⟨F', w_X12_openOnes_0 hl0 g1⟩
theorem fl_C {T U : Nat} (hl0 : LyX11 S T U) (hT : T = 34 ∨ T = 77) (hm : cSp I T) (hr : cRl I T) (hn : 0 ≤ I 126 6 ∧ I 126 6 ≤ 8) (hs : ∀ i : Nat, (i : Int) < I 126 6 → (0 ≤ I 133 i ∧ I 133 i < I T 6) ∧ -999 ≤ I 134 i ∧ I 134 i ≤ 999) :
    ∃ J, Ca (d + 5) mX11_findLacks [vR (some (21, 0, 31))] (I, S) (.inl none) (J, S) ∧ (∀ a, a ≠ 152 → a ≠ 153 → J a = I a) ∧ ∀ i : Nat, (i : Int) < I 126 6 → J 153 i = I 134 i - ccs I T (I 133 i) := by
  have lp : ∀ (t k : Nat) (J : Nat → Nat → Int), k + t = (I 126 6).toNat → (∀ a, a ≠ 152 → a ≠ 153 → J a = I a) → (∀ i : Nat, i < k → J 153 i = I 134 i - ccs I T (I 133 i)) →
      ∃ J', L_X11_findLacks_2 d 31 k J S (J', S) ∧ (∀ a, a ≠ 152 → a ≠ 153 → J' a = I a) ∧ ∀ i : Nat, (i : Int) < I 126 6 → J' 153 i = I 134 i - ccs I T (I 133 i) := by
    intro t
    induction t with
    | zero =>
      intro k J hk hJ hf
      have eT : J 126 6 = I 126 6 := by rw [hJ 126 (by omega) (by omega)]
      exact ⟨J, w_X11_findLacks_2 hl0 (fun h => absurd h (by omega)) (e1 := fun _ => rfl) (v1 := fun h => absurd h (by omega)) (v3 := fun h => absurd h (by omega)) (v4 := fun h => absurd h (by omega)) (v5 := fun h => absurd h (by omega)) (v6 := fun h => absurd h (by omega)), hJ, fun i hi => hf i (by omega)⟩
    | succ t ih =>
      intro k J hk hJ hf
      have eT : J 126 6 = I 126 6 := by rw [hJ 126 (by omega) (by omega)]
      have e133 : J 133 ((k : Int)).toNat = I 133 k := by rw [hJ 133 (by omega) (by omega), Int.toNat_natCast]
      have e134 : J 134 ((k : Int)).toNat = I 134 k := by rw [hJ 134 (by omega) (by omega), Int.toNat_natCast]
      have h9 := hs k (by omega)
      have ec : ccs J T (I 133 k) = ccs I T (I 133 k) := ccs_fr (fun a h => hJ a (by omega) (by omega))
      have hl := ccs_le hm hr h9.1
      obtain ⟨J', g1, g2⟩ := ih (k + 1) (up2 (roI J T 152 (I 133 k)) 153 k (I 134 k - ccs I T (I 133 k))) (by omega) (fun a h1 h2 => by rw [show up2 (roI J T 152 (I 133 k)) 153 k (I 134 k - ccs I T (I 133 k)) a = roI J T 152 (I 133 k) a from funext (fun j => up2_a _ h2), roI_a h1]; exact hJ a h1 h2) (fun i hi => by
        by_cases e : i = k
        · rw [e, up2_same]
        · rw [up2_k _ e, roI_a (by omega)]
          exact hf i (by omega))
      refine ⟨J', w_X11_findLacks_2 hl0 (fun _ => ?_) (e1 := fun h => absurd h (by omega)) (v1 := fun _ => by omega) (v2 := fun _ => hT) (v3 := fun _ => cSp_fr (fun a h => hJ a (by omega) (by omega)) hm) (v4 := fun _ => cRl_fr (fun a h => hJ a (by omega) (by omega)) hr) (v5 := fun _ => by rw [e133, hJ T (by omega) (by omega)]; exact h9.1) (v6 := fun _ => by rw [e133, e134, ec]; omega), g2⟩
      rw [e133, e134, ec, Int.toNat_natCast]
      exact g1
  obtain ⟨J', g1, g2⟩ := lp (I 126 6).toNat 0 I (by omega) (fun _ _ _ => rfl) (fun i hi => absurd hi (by omega))
  exact ⟨J', w_X11_findLacks_0 hl0 g1, g2⟩
theorem ntC_congr {a0 a3 : Nat} {r dg : Int} (h1 : J (a0 + 1) = I (a0 + 1)) (hf : ∀ k : Nat, (k : Int) < dg → J a3 k = I a3 k) : ∀ n : Nat, (n : Int) ≤ dg → ntC J a0 a3 r dg n = ntC I a0 a3 r dg n
  | 0, _ => rfl
  | n + 1, h => by
    have eq : ∀ x y z w : Int, q_X7_applies J a0 r x y z w = q_X7_applies I a0 r x y z w := fun x y z w => by unfold q_X7_applies; rw [h1]
    have ex : ntX (J a3) dg n = ntX (I a3) dg n := by unfold ntX; exact hf _ (by split <;> omega)
    have ey : ntY (J a3) dg n = ntY (I a3) dg n := by unfold ntY; exact hf _ (by split <;> omega)
    rw [ntC_succ, ntC_succ, ntC_congr h1 hf n (by omega), eq, eq, ex, ey, hf n (by omega)]
/-- how often a rule sends to a spot, less how often from there -/
def ntN (I : Nat → Nat → Int) (T : Nat) (r s : Int) : Int := ntC (up1 I 152 (nbC I T s)) (T + 2) 152 r (I (T + 4) s.toNat) (I (T + 4) s.toNat).toNat
theorem ntN_fr {T : Nat} {r s : Int} (h : ∀ a, a = T + 3 ∨ a = T + 4 ∨ a = T + 6 → J a = I a) (hT : T = 34 ∨ T = 77) (hd : 0 ≤ I (T + 4) s.toNat) : ntN J T r s = ntN I T r s := by
  have e2 : nbC J T s = nbC I T s := by
    funext j
    unfold nbC
    rw [h (T + 4) (by omega), h (T + 6) (by omega)]
  unfold ntN
  rw [h (T + 4) (by omega), e2]
  refine ntC_congr ?_ (fun k hk => ?_) _ (by omega)
  · rw [up1_o J (by omega), up1_o I (by omega)]; exact h (T + 2 + 1) (by omega)
  · rw [up1_same, up1_same]
theorem ntN_le {T : Nat} {r s : Int} (hd : 0 ≤ I (T + 4) s.toNat ∧ I (T + 4) s.toNat ≤ 9) : -9 ≤ ntN I T r s ∧ ntN I T r s ≤ 9 := by
  have := ntC_le (up1 I 152 (nbC I T s)) (T + 2) 152 r (I (T + 4) s.toNat) (I (T + 4) s.toNat).toNat
  unfold ntN
  omega
theorem fN_C {x1 : Int} {T U : Nat} (hl0 : LyX11 S T U) (hT : T = 34 ∨ T = 77) (hm : cSp I T) (hx : 0 ≤ x1 ∧ x1 < 6) (hn : 0 ≤ I 126 6 ∧ I 126 6 ≤ 8) (hs : ∀ i : Nat, (i : Int) < I 126 6 → 0 ≤ I 133 i ∧ I 133 i < I T 6) :
    ∃ J, Ca (d + 3) mX11_findNets [vR (some (21, 0, 31)), vI x1] (I, S) (.inl none) (J, S) ∧ (∀ a, a ≠ 152 → a ≠ 154 → J a = I a) ∧ (∀ i : Nat, (i : Int) < I 126 6 → J 154 i = ntN I T x1 (I 133 i)) ∧ ∀ i : Nat, ¬((i : Int) < I 126 6) → J 154 i = I 154 i := by
  have lp : ∀ (t k : Nat) (J : Nat → Nat → Int), k + t = (I 126 6).toNat → (∀ a, a ≠ 152 → a ≠ 154 → J a = I a) → (∀ i : Nat, i < k → J 154 i = ntN I T x1 (I 133 i)) → (∀ i : Nat, ¬((i : Int) < I 126 6) → J 154 i = I 154 i) →
      ∃ J', L_X11_findNets_2 d 31 x1 k J S (J', S) ∧ (∀ a, a ≠ 152 → a ≠ 154 → J' a = I a) ∧ (∀ i : Nat, (i : Int) < I 126 6 → J' 154 i = ntN I T x1 (I 133 i)) ∧ ∀ i : Nat, ¬((i : Int) < I 126 6) → J' 154 i = I 154 i := by
    intro t
    induction t with
    | zero =>
      intro k J hk hJ hf ho
      have eT : J 126 6 = I 126 6 := by rw [hJ 126 (by omega) (by omega)]
      exact ⟨J, w_X11_findNets_2 hl0 (fun h => absurd h (by omega)) (e1 := fun _ => rfl) (v1 := fun h => absurd h (by omega)) (v2 := fun h => absurd h (by omega)) (v3 := fun h => absurd h (by omega)) (v4 := fun h => absurd h (by omega)) (v7 := fun h => absurd h (by omega)) (v9 := fun h => absurd h (by omega)), hJ, fun i hi => hf i (by omega), ho⟩
    | succ t ih =>
      intro k J hk hJ hf ho
      have eT : J 126 6 = I 126 6 := by rw [hJ 126 (by omega) (by omega)]
      have hm1 := hm.1
      have e133 : J 133 ((k : Int)).toNat = I 133 k := by rw [hJ 133 (by omega) (by omega), Int.toNat_natCast]
      have e4 : J (T + 4) = I (T + 4) := hJ _ (by omega) (by omega)
      have e6 : J (T + 6) = I (T + 6) := hJ _ (by omega) (by omega)
      have h9 := hs k (by omega)
      have hd := hm.2 (I 133 k) h9.1 h9.2
      have en : ntC (roI J T 152 (I 133 k)) (T + 2) 152 x1 (I (T + 4) (I 133 k).toNat) (I (T + 4) (I 133 k).toNat).toNat = ntN I T x1 (I 133 k) := by
        unfold ntN
        refine ntC_congr ?_ (fun j hj => ?_) _ (by omega)
        · rw [roI_a (by omega), hJ _ (by omega) (by omega), up1_o I (by omega)]
        · rw [ro_row e4 e6 hj, up1_same]
      have e4' : (roI J T 152 (I 133 k)) (T + 4) (I 133 k).toNat = I (T + 4) (I 133 k).toNat := by rw [roI_a (by omega), e4]
      obtain ⟨J', g1, g2⟩ := ih (k + 1) (up2 (roI J T 152 (I 133 k)) 154 k (ntN I T x1 (I 133 k))) (by omega) (fun a h1 h2 => by rw [show up2 (roI J T 152 (I 133 k)) 154 k (ntN I T x1 (I 133 k)) a = roI J T 152 (I 133 k) a from funext (fun j => up2_a _ h2), roI_a h1]; exact hJ a h1 h2) (fun i hi => by
        by_cases e : i = k
        · rw [e, up2_same]
        · rw [up2_k _ e, roI_a (by omega)]
          exact hf i (by omega)) (fun i hi => by rw [up2_k _ (by omega), roI_a (by omega)]; exact ho i hi)
      refine ⟨J', w_X11_findNets_2 hl0 (fun _ => ?_) (e1 := fun h => absurd h (by omega)) (v1 := fun _ => by omega) (v2 := fun _ => by rw [e133]; omega) (v3 := fun _ => by rw [e133, e4]; omega) (v4 := fun _ j hj => by rw [e133, e4] at hj; rw [e133, e6]; have := hd.2 j hj; omega) (v7 := fun _ => by rw [e133]; omega) (v9 := fun _ => by rw [e133, e4']; omega), g2⟩
      rw [e133, e4', en, Int.toNat_natCast]
      exact g1
  obtain ⟨J', g1, g2⟩ := lp (I 126 6).toNat 0 I (by omega) (fun _ _ _ => rfl) (fun i hi => absurd hi (by omega)) (fun _ _ => rfl)
  exact ⟨J', w_X11_findNets_0 hl0 g1, g2⟩
end
end
