/-! ===== tokens of the reference ===== -/
noncomputable section
section
variable {d : Nat} {I : Nat → Nat → Int} {S : PS}
abbrev bA (t : Nat → Int) (n p : Int) : Int := if n ≤ p then (0 : Int) else t p.toNat
theorem bA_1 {t : Nat → Int} {n p : Int} : (97 ≤ bA t n p ∧ bA t n p ≤ 122) ↔ kdA t n p = 1 := by
  unfold bA kdA
  by_cases h : n ≤ p
  · rw [if_pos h, if_neg (by omega)]; omega
  · rw [if_neg h, if_pos (by omega), kdC_1]
theorem bA_2 {t : Nat → Int} {n p : Int} : (48 ≤ bA t n p ∧ bA t n p ≤ 57) ↔ kdA t n p = 2 := by
  unfold bA kdA
  by_cases h : n ≤ p
  · rw [if_pos h, if_neg (by omega)]; omega
  · rw [if_neg h, if_pos (by omega), kdC_2]
def mwS (t : Nat → Int) (st : Nat) : Nat → Int
  | 0 => 0
  | k + 1 => if (k : Int) < 5 then p_lor (p_lshl (mwS t st k) 5) (p_i2l (t (st + k) - 96)) else mwS t st k
def mvS (t : Nat → Int) (st : Nat) : Nat → Int
  | 0 => 0
  | k + 1 => if (k : Int) < 4 then ((10 * mvS t st k) + t (st + k)) - 48 else mvS t st k
theorem mvS_in {t : Nat → Int} {st : Nat} : ∀ {k : Nat}, (∀ j, j < k → 48 ≤ t (st + j) ∧ t (st + j) ≤ 57) → 0 ≤ mvS t st k ∧ mvS t st k ≤ 9999 ∧ (k = 0 → mvS t st k ≤ 0) ∧ (k ≤ 1 → mvS t st k ≤ 9) ∧ (k ≤ 2 → mvS t st k ≤ 99) ∧ (k ≤ 3 → mvS t st k ≤ 999)
  | 0, _ => by show 0 ≤ (0 : Int) ∧ (0 : Int) ≤ 9999 ∧ (0 = 0 → (0 : Int) ≤ 0) ∧ (0 ≤ 1 → (0 : Int) ≤ 9) ∧ (0 ≤ 2 → (0 : Int) ≤ 99) ∧ (0 ≤ 3 → (0 : Int) ≤ 999); omega
  | k + 1, h => by
    have h1 := mvS_in (k := k) (fun j hj => h j (by omega))
    have h2 := h k (by omega)
    unfold mvS
    split <;> omega
def G4 (I : Nat → Nat → Int) (a b w v : Int) : Nat → Nat → Int := up2 (up2 (up2 (up2 I 156 7 a) 156 9 b) 156 12 w) 156 11 v
theorem G4_eq {I : Nat → Nat → Int} {a b w v a' w' v' : Int} (X : Nat → Nat → Int) (h7 : X 156 7 = a') (h9 : X 156 9 = b) (h12 : X 156 12 = w') (h11 : X 156 11 = v') (ho : ∀ x k, ¬(x = 156 ∧ k = 7) → ¬(x = 156 ∧ k = 12) → ¬(x = 156 ∧ k = 11) → X x k = G4 I a b w v x k) : X = G4 I a' b w' v' := by
  funext x k
  by_cases c7 : x = 156 ∧ k = 7
  · obtain ⟨rfl, rfl⟩ := c7; rw [h7]; rfl
  · by_cases c12 : x = 156 ∧ k = 12
    · obtain ⟨rfl, rfl⟩ := c12; rw [h12]; rfl
    · by_cases c11 : x = 156 ∧ k = 11
      · obtain ⟨rfl, rfl⟩ := c11; rw [h11]; rfl
      · rw [ho x k c7 c12 c11]
        unfold G4 up2
        rw [if_neg c11, if_neg c12, if_neg c11, if_neg c12]
        by_cases c9 : x = 156 ∧ k = 9
        · rw [if_pos c9, if_pos c9]
        · rw [if_neg c9, if_neg c9, if_neg c7, if_neg c7]
theorem up2_f {I : Nat → Nat → Int} {x k a j : Nat} {v : Int} (h : ¬(x = a ∧ k = j)) : up2 I a j v x k = I x k := if_neg h
theorem G4_7 (I : Nat → Nat → Int) (a b w v a' : Int) : up2 (G4 I a b w v) 156 7 a' = G4 I a' b w v := G4_eq (a := a) (w := w) (v := v) _ rfl rfl rfl rfl (fun x k c7 _ _ => up2_f c7)
theorem G4_12 (I : Nat → Nat → Int) (a b w v a' w' : Int) : up2 (up2 (G4 I a b w v) 156 12 w') 156 7 a' = G4 I a' b w' v := G4_eq (a := a) (w := w) (v := v) _ rfl rfl rfl rfl (fun x k c7 c12 _ => by rw [up2_f c7, up2_f c12])
theorem G4_11 (I : Nat → Nat → Int) (a b w v a' v' : Int) : up2 (up2 (G4 I a b w v) 156 11 v') 156 7 a' = G4 I a' b w v' := G4_eq (a := a) (w := w) (v := v) _ rfl rfl rfl rfl (fun x k c7 _ c11 => by rw [up2_f c7, up2_f c11])
def msK (k : Int) : Int := if k = 5 then 4 else k
def gsH (I : Nat → Nat → Int) (en st : Nat) (w v k : Int) : Nat → Nat → Int := up2 (up2 (G4 I en st w v) 156 8 (msK k)) 156 10 ((en : Int) - st)
def gsW (t : Nat → Int) (n p : Nat) : Int := if tkK t n p = 1 then mwS t (tkS t n p) (tkE t n p - tkS t n p) else 0
def gsV (t : Nat → Int) (n p : Nat) : Int := if tkK t n p = 2 then mvS t (tkS t n p) (tkE t n p - tkS t n p) else 0
def gsI (I : Nat → Nat → Int) : Nat → Nat → Int := gsH I (tkE (I 157) ((I 156 6)).toNat ((I 156 7)).toNat) (tkS (I 157) ((I 156 6)).toNat ((I 156 7)).toNat) (gsW (I 157) ((I 156 6)).toNat ((I 156 7)).toNat) (gsV (I 157) ((I 156 6)).toNat ((I 156 7)).toNat) (tkK (I 157) ((I 156 6)).toNat ((I 156 7)).toNat)
theorem c_X12_goes (hl0 : LyX12 S) (hn : 0 ≤ (I 156 6) ∧ (I 156 6) ≤ 700) (hp : 0 ≤ (I 156 7) ∧ (I 156 7) ≤ (I 156 6)) (hb : ∀ k : Nat, 0 ≤ I 157 k ∧ I 157 k ≤ 255) : Ca (d + 1) mX12_goes [vR (some (22, 0, 156))] (I, S) (.inl none) (gsI I, S) := by
  refine w_X12_goes_in ?_
  obtain ⟨n, hn0⟩ := Int.eq_ofNat_of_zero_le hn.1
  obtain ⟨p0, hp0⟩ := Int.eq_ofNat_of_zero_le hp.1
  obtain ⟨t, ht⟩ : ∃ t, t = I 157 := ⟨_, rfl⟩
  obtain ⟨st, hst⟩ : ∃ q, q = tkS t n p0 := ⟨_, rfl⟩
  obtain ⟨kp, hkp⟩ : ∃ q, q = tkK t n p0 := ⟨_, rfl⟩
  obtain ⟨en, hen⟩ : ∃ q, q = tkE t n p0 := ⟨_, rfl⟩
  obtain ⟨W, hW⟩ : ∃ q, q = gsW t n p0 := ⟨_, rfl⟩
  obtain ⟨V, hV⟩ : ∃ q, q = gsV t n p0 := ⟨_, rfl⟩
  have hA : gsI I = gsH I en st W V kp := by
    unfold gsI; rw [← ht, hn0, hp0, hst, hkp, hen, hW, hV]; rfl
  rw [hA]
  have hkp2 : kp = kdA t n st := by rw [hkp, hst]; rfl
  have hstn : st ≤ n := by
    have := runL_le (kdP t n 4) (n - p0) p0
    rw [hst]; unfold tkS; omega
  have facts : ∀ (J : Nat → Nat → Int) (p : Nat), J 156 6 = n → J 156 7 = p → J 157 = t → (if J 156 6 ≤ (J 156 7) then (0 : Int) else J 157 (J 156 7).toNat) = bA t n p := fun J p h1 h2 h3 => by rw [h1, h2, h3]
  have bAp : ∀ p : Nat, p < n → bA t n p = t p := fun p hp => by unfold bA; rw [if_neg (by omega), Int.toNat_natCast]
  -- a word
  have words : ∀ (j p : Nat) (J : Nat → Nat → Int) (x1 : Int), J = G4 I p st (mwS t st (p - st)) 0 → p + j = n → st ≤ p → kp = 1 → runL (kdP t n 1) (n - p) p = en → L_X12_goes_103 d 156 x1 J S (gsH I en st W V kp, S) := by
    intro j
    induction j with
    | zero =>
      intro p J x1 hJ hj hsp hk hr
      have j6 : J 156 6 = n := by rw [hJ]; exact hn0
      have j7 : J 156 7 = p := by rw [hJ]; rfl
      have j9 : J 156 9 = st := by rw [hJ]; rfl
      have f := facts J p j6 j7 (by rw [hJ]; exact ht.symm)
      have hpe : p = en := by rw [← hr, show n - p = 0 by omega]; rfl
      have hno : ¬(97 ≤ bA t n p ∧ bA t n p ≤ 122) := fun q => by
        have := bA_1.mp q
        unfold kdA at this
        rw [if_neg (by omega)] at this
        cases this
      rw [← f] at hno
      refine w_X12_goes_103 hl0 (fun h => absurd h hno) (fun h => absurd h hno) (fun _ => ?_) (v5 := fun h => absurd h hno)
      rw [j7, j9, hJ, hW, hV]
      unfold gsH gsW gsV
      rw [← hkp, hk, if_pos rfl, if_neg (by decide), ← hen, ← hst, hpe]
      rfl
    | succ j ih =>
      intro p J x1 hJ hj hsp hk hr
      have j6 : J 156 6 = n := by rw [hJ]; exact hn0
      have j7 : J 156 7 = p := by rw [hJ]; rfl
      have j9 : J 156 9 = st := by rw [hJ]; rfl
      have j12 : J 156 12 = mwS t st (p - st) := by rw [hJ]; rfl
      have f := facts J p j6 j7 (by rw [hJ]; exact ht.symm)
      have hru : runL (kdP t n 1) (n - p) p = if kdP t n 1 p = true then runL (kdP t n 1) (n - (p + 1)) (p + 1) else p := by
        rw [show n - p = (n - (p + 1)) + 1 by omega]; rfl
      have hw : mwS t st (p + 1 - st) = if ((p - st : Nat) : Int) < 5 then p_lor (p_lshl (mwS t st (p - st)) 5) (p_i2l (t p - 96)) else mwS t st (p - st) := by
        rw [show p + 1 - st = (p - st) + 1 by omega]
        show (if ((p - st : Nat) : Int) < 5 then p_lor (p_lshl (mwS t st (p - st)) 5) (p_i2l (t (st + (p - st)) - 96)) else mwS t st (p - st)) = _
        rw [show st + (p - st) = p by omega]
      have hbb := hb p
      rw [← ht] at hbb
      refine w_X12_goes_103 hl0 (fun hq hc => ?_) (fun hq hc => ?_) (fun hq => ?_) (v5 := fun hq hc => ?_)
      · rw [f] at hq
        have hq := bA_1.mp hq
        refine ih (p + 1) _ x1 ?_ (by omega) (by omega) hk ?_
        · rw [j7, hJ, G4_7, hw, if_neg (by omega)]; rfl
        · rw [← hr, hru, if_pos (by unfold kdP; rw [decide_eq_true hq])]
      · rw [f] at hq
        have hq := bA_1.mp hq
        refine ih (p + 1) _ x1 ?_ (by omega) (by omega) hk ?_
        · rw [f, j7, j12, hJ, G4_12, hw, if_pos (by omega), bAp p (by omega)]; rfl
        · rw [← hr, hru, if_pos (by unfold kdP; rw [decide_eq_true hq])]
      · rw [f] at hq
        have hne : kdA t n p ≠ 1 := fun q => hq (bA_1.mpr q)
        have hpe : p = en := by rw [← hr, hru, if_neg (by unfold kdP; rw [decide_eq_false hne]; decide)]
        rw [j7, j9, hJ, hW, hV]
        unfold gsH gsW gsV
        rw [← hkp, hk, if_pos rfl, if_neg (by decide), ← hen, ← hst, hpe]
        rfl
      · rw [f, bAp p (by omega)]; omega
  -- a number
  have nums : ∀ (j p : Nat) (J : Nat → Nat → Int) (x1 : Int), J = G4 I p st 0 (mvS t st (p - st)) → p + j = n → st ≤ p → kp = 2 → runL (kdP t n 2) (n - p) p = en → (∀ i, i < p - st → kdA t n ((st + i : Nat) : Int) = 2) → L_X12_goes_181 d 156 x1 J S (gsH I en st W V kp, S) := by
    intro j
    induction j with
    | zero =>
      intro p J x1 hJ hj hsp hk hr hall
      have j6 : J 156 6 = n := by rw [hJ]; exact hn0
      have j7 : J 156 7 = p := by rw [hJ]; rfl
      have j9 : J 156 9 = st := by rw [hJ]; rfl
      have f := facts J p j6 j7 (by rw [hJ]; exact ht.symm)
      have hpe : p = en := by rw [← hr, show n - p = 0 by omega]; rfl
      have hno : ¬(48 ≤ bA t n p ∧ bA t n p ≤ 57) := fun q => by
        have := bA_2.mp q
        unfold kdA at this
        rw [if_neg (by omega)] at this
        cases this
      rw [← f] at hno
      refine w_X12_goes_181 hl0 (fun h => absurd h hno) (fun h => absurd h hno) (fun _ => ?_) (v5 := fun h => absurd h hno) (v6 := fun h => absurd h hno) (v7 := fun h => absurd h hno)
      rw [j7, j9, hJ, hW, hV]
      unfold gsH gsW gsV
      rw [← hkp, hk, if_pos rfl, if_neg (by decide), ← hen, ← hst, hpe]
      rfl
    | succ j ih =>
      intro p J x1 hJ hj hsp hk hr hall
      have j6 : J 156 6 = n := by rw [hJ]; exact hn0
      have j7 : J 156 7 = p := by rw [hJ]; rfl
      have j9 : J 156 9 = st := by rw [hJ]; rfl
      have j11 : J 156 11 = mvS t st (p - st) := by rw [hJ]; rfl
      have f := facts J p j6 j7 (by rw [hJ]; exact ht.symm)
      have hru : runL (kdP t n 2) (n - p) p = if kdP t n 2 p = true then runL (kdP t n 2) (n - (p + 1)) (p + 1) else p := by
        rw [show n - p = (n - (p + 1)) + 1 by omega]; rfl
      have hw : mvS t st (p + 1 - st) = if ((p - st : Nat) : Int) < 4 then ((10 * mvS t st (p - st)) + t p) - 48 else mvS t st (p - st) := by
        rw [show p + 1 - st = (p - st) + 1 by omega]
        show (if ((p - st : Nat) : Int) < 4 then ((10 * mvS t st (p - st)) + t (st + (p - st))) - 48 else mvS t st (p - st)) = _
        rw [show st + (p - st) = p by omega]
      have hbb := hb p
      rw [← ht] at hbb
      have hin := mvS_in (t := t) (st := st) (k := p - st) (fun i hi => by
        have := hall i hi
        unfold kdA at this
        rw [if_pos (by omega), Int.toNat_natCast] at this
        exact kdC_2.mp this)
      have hnext : kdA t n p = 2 → ∀ i, i < p + 1 - st → kdA t n ((st + i : Nat) : Int) = 2 := fun hq i hi => by
        by_cases e : i = p - st
        · rw [e, show ((st + (p - st) : Nat) : Int) = (p : Int) by omega]; exact hq
        · exact hall i (by omega)
      refine w_X12_goes_181 hl0 (fun hq hc => ?_) (fun hq hc => ?_) (fun hq => ?_) (v5 := fun hq hc => ?_) (v6 := fun hq hc => ?_) (v7 := fun hq hc => ?_)
      · rw [f] at hq
        have hq := bA_2.mp hq
        refine ih (p + 1) _ x1 ?_ (by omega) (by omega) hk ?_ (hnext hq)
        · rw [j7, hJ, G4_7, hw, if_neg (by omega)]; rfl
        · rw [← hr, hru, if_pos (by unfold kdP; rw [decide_eq_true hq])]
      · rw [f] at hq
        have hq := bA_2.mp hq
        refine ih (p + 1) _ x1 ?_ (by omega) (by omega) hk ?_ (hnext hq)
        · rw [f, j7, j11, hJ, G4_11, hw, if_pos (by omega), bAp p (by omega)]; rfl
        · rw [← hr, hru, if_pos (by unfold kdP; rw [decide_eq_true hq])]
      · rw [f] at hq
        have hne : kdA t n p ≠ 2 := fun q => hq (bA_2.mpr q)
        have hpe : p = en := by rw [← hr, hru, if_neg (by unfold kdP; rw [decide_eq_false hne]; decide)]
        rw [j7, j9, hJ, hW, hV]
        unfold gsH gsW gsV
        rw [← hkp, hk, if_pos rfl, if_neg (by decide), ← hen, ← hst, hpe]
        rfl
      · rw [j11]; omega
      · rw [f, j11, bAp p (by omega)]; omega
      · rw [f, j11, bAp p (by omega)]; omega
  -- the token's beginning
  have begin_ : ∀ J, J = up2 I 156 7 st → kp ≠ 4 → L_X12_goes_0 d 156 J S (gsH I en st W V kp, S) := by
    intro J hJ hk4
    have j6 : J 156 6 = n := by rw [hJ]; exact hn0
    have j7 : J 156 7 = st := by rw [hJ]; rfl
    have f := facts J st j6 j7 (by rw [hJ]; exact ht.symm)
    have hH : up2 (up2 (up2 J 156 9 (J 156 7)) 156 12 0) 156 11 0 = G4 I st st 0 0 := by rw [j7, hJ]; rfl
    have k1 : (97 ≤ bA t n st ∧ bA t n st ≤ 122) ↔ kp = 1 := by rw [bA_1, hkp2]
    have k2 : (48 ≤ bA t n st ∧ bA t n st ≤ 57) ↔ kp = 2 := by rw [bA_2, hkp2]
    have goW : (97 ≤ bA t n st ∧ bA t n st ≤ 122) → ∀ x, L_X12_goes_103 d 156 x (up2 (up2 (up2 J 156 9 (J 156 7)) 156 12 0) 156 11 0) S (gsH I en st W V kp, S) := fun q x => by
      have q := k1.mp q
      refine words (n - st) st _ x (by rw [hH, Nat.sub_self]; rfl) (by omega) (Nat.le_refl st) q ?_
      rw [hen]; unfold tkE; rw [← hkp, if_pos (Or.inl q), ← hst, q]
    have goN : (48 ≤ bA t n st ∧ bA t n st ≤ 57) → ∀ x, L_X12_goes_181 d 156 x (up2 (up2 (up2 J 156 9 (J 156 7)) 156 12 0) 156 11 0) S (gsH I en st W V kp, S) := fun q x => by
      have q := k2.mp q
      refine nums (n - st) st _ x (by rw [hH, Nat.sub_self]; rfl) (by omega) (Nat.le_refl st) q ?_ (fun i hi => absurd hi (by omega))
      rw [hen]; unfold tkE; rw [← hkp, if_pos (Or.inr q), ← hst, q]
    have hWV : kp ≠ 1 → kp ≠ 2 → W = 0 ∧ V = 0 := fun h1 h2 => by
      rw [hW, hV]; unfold gsW gsV; rw [← hkp, if_neg h1, if_neg h2]; exact ⟨rfl, rfl⟩
    have sign : st < n → ¬(97 ≤ bA t n st ∧ bA t n st ≤ 122) → ¬(48 ≤ bA t n st ∧ bA t n st ≤ 57) → (up2 (up2 (up2 (up2 (up2 (up2 J 156 9 (J 156 7)) 156 12 0) 156 11 0) 156 7 (J 156 7 + 1)) 156 8 (if bA t n st ≠ 59 then (4 : Int) else 3)) 156 10 ((J 156 7 + 1) - (J 156 7)), S) = (gsH I en st W V kp, S) := fun hlt q1 q2 => by
      have h1 : kp ≠ 1 := fun q => q1 (k1.mpr q)
      have h2 : kp ≠ 2 := fun q => q2 (k2.mpr q)
      have hkc : kp = kdC (t st) := by rw [hkp2]; unfold kdA; rw [if_pos (by omega), Int.toNat_natCast]
      have hin := kdC_in (t st)
      have h0 : kp ≠ 0 := by rw [hkc]; omega
      have he : en = st + 1 := by
        rw [hen]; unfold tkE
        rw [← hkp, if_neg (show ¬(kp = 1 ∨ kp = 2) from fun q => q.elim h1 h2), if_neg h0, ← hst]
      have hs : (if bA t n st ≠ 59 then (4 : Int) else 3) = msK kp := by
        rw [bAp st hlt]
        unfold msK
        by_cases h3 : t st = 59
        · rw [if_neg (show ¬(t st ≠ 59) from fun q => q h3)]
          have : kp = 3 := by rw [hkc]; exact kdC_3.mpr h3
          rw [this]; rfl
        · rw [if_pos h3]
          have : kp ≠ 3 := fun q => h3 (kdC_3.mp (by rw [← hkc]; exact q))
          rw [if_pos (by rw [hkc] at h1 h2 h0 this hk4 ⊢; omega)]
      obtain ⟨e1, e2⟩ := hWV h1 h2
      rw [hs, hH, G4_7, j7, e1, e2, he]
      unfold gsH
      rfl
    have endd : ¬(st < n) → (up2 (up2 (up2 (up2 (up2 J 156 9 (J 156 7)) 156 12 0) 156 11 0) 156 8 0) 156 10 (J 156 7 - (J 156 7)), S) = (gsH I en st W V kp, S) := fun hlt => by
      have h0 : kp = 0 := by rw [hkp2]; unfold kdA; rw [if_neg (by omega)]
      have he : en = st := by
        rw [hen]; unfold tkE
        rw [← hkp, if_neg (show ¬(kp = 1 ∨ kp = 2) by omega), if_pos h0, ← hst]
      obtain ⟨e1, e2⟩ := hWV (by omega) (by omega)
      rw [hH, j7, e1, e2, he, h0]
      rfl
    have nb : st < n → bA t n st ≠ 32 ∧ bA t n st ≠ 10 := fun hlt => by
      have hkc : kp = kdC (t st) := by rw [hkp2]; unfold kdA; rw [if_pos (by omega), Int.toNat_natCast]
      rw [bAp st hlt]
      exact ⟨fun q => hk4 (by rw [hkc]; exact kdC_4.mpr (Or.inl q)), fun q => hk4 (by rw [hkc]; exact kdC_4.mpr (Or.inr q))⟩
    refine w_X12_goes_0 hl0 (fun h h2 => absurd h2 (by omega)) (fun h h2 => absurd h2 (by omega)) (fun h q => ?_) (fun h _ _ _ _ q => ?_) (fun h _ _ _ q => ?_) (fun h _ q => ?_) (fun h h2 => absurd h2 (by omega)) (fun h _ => ?_) (fun h _ _ _ q1 q2 => ?_) (fun h _ _ h2 => absurd h2 (by omega))
    · exact absurd (f ▸ q) (nb (by omega)).1
    · exact goN (f ▸ q) _
    · exact goW (f ▸ q) _
    · exact absurd (f ▸ q) (nb (by omega)).2
    · exact endd (by omega)
    · have := sign (by omega) (f ▸ q1) (f ▸ q2)
      rw [f]
      exact this
  -- blanks
  have skip : ∀ (j p : Nat) (J : Nat → Nat → Int), J = up2 I 156 7 p → p + j = n → runL (kdP t n 4) (n - p) p = st → L_X12_goes_0 d 156 J S (gsH I en st W V kp, S) := by
    intro j
    induction j with
    | zero =>
      intro p J hJ hj hr
      have hps : p = st := by rw [← hr, show n - p = 0 by omega]; rfl
      refine begin_ J (by rw [hJ, hps]) (fun h4 => ?_)
      rw [hkp2] at h4
      unfold kdA at h4
      rw [if_neg (by omega)] at h4
      cases h4
    | succ j ih =>
      intro p J hJ hj hr
      have hru : runL (kdP t n 4) (n - p) p = if kdP t n 4 p = true then runL (kdP t n 4) (n - (p + 1)) (p + 1) else p := by
        rw [show n - p = (n - (p + 1)) + 1 by omega]; rfl
      by_cases h4 : kdA t n p = 4
      · have j6 : J 156 6 = n := by rw [hJ]; exact hn0
        have j7 : J 156 7 = p := by rw [hJ]; rfl
        have f := facts J p j6 j7 (by rw [hJ]; exact ht.symm)
        have h5 : bA t n p = 32 ∨ bA t n p = 10 := by
          unfold kdA at h4
          rw [if_pos (by omega), Int.toNat_natCast] at h4
          rw [bAp p (by omega)]
          exact kdC_4.mp h4
        have next : L_X12_goes_0 d 156 (up2 J 156 7 (J 156 7 + 1)) S (gsH I en st W V kp, S) := by
          refine ih (p + 1) _ ?_ (by omega) ?_
          · rw [j7, hJ, up2_up2]; rfl
          · rw [← hr, hru, if_pos (by unfold kdP; rw [decide_eq_true h4])]
        exact w_X12_goes_0 hl0 (fun h h2 => absurd h2 (by omega)) (fun h h2 => absurd h2 (by omega)) (fun _ _ => next) (fun _ q1 q2 => absurd h5 (fun q => q.elim (f ▸ q1) (f ▸ q2))) (fun _ q1 q2 => absurd h5 (fun q => q.elim (f ▸ q1) (f ▸ q2))) (fun _ _ _ => next) (fun h h2 => absurd h2 (by omega)) (fun h => absurd h (by omega)) (fun _ q1 q2 => absurd h5 (fun q => q.elim (f ▸ q1) (f ▸ q2))) (fun _ q1 q2 => absurd h5 (fun q => q.elim (f ▸ q1) (f ▸ q2)))
      · have hps : p = st := by rw [← hr, hru, if_neg (by unfold kdP; rw [decide_eq_false h4]; decide)]
        refine begin_ J (by rw [hJ, hps]) (fun q => h4 ?_)
        rw [hps, ← hkp2]; exact q
  refine skip (n - p0) p0 I (by rw [← hp0]; exact (up2_self I 156 7).symm) (by omega) ?_
  rw [hst]; rfl
end
end
