/-! ===== tokens ===== -/
noncomputable section
def kdC (c : Int) : Int := if 97 ≤ c ∧ c ≤ 122 then 1 else if 48 ≤ c ∧ c ≤ 57 then 2 else if c = 32 ∨ c = 10 then 4 else if c = 59 then 3 else 5
def kdA (t : Nat → Int) (n k : Int) : Int := if k < n then kdC (t k.toNat) else 0
/-- how far something goes on -/
def runL (q : Nat → Bool) : Nat → Nat → Nat
  | 0, p => p
  | j + 1, p => if q p = true then runL q j (p + 1) else p
theorem runL_le (q : Nat → Bool) : ∀ j p, p ≤ runL q j p ∧ runL q j p ≤ p + j
  | 0, p => ⟨Nat.le_refl p, Nat.le_refl p⟩
  | j + 1, p => by
    have := runL_le q j (p + 1)
    unfold runL
    split <;> omega
def kdP (t : Nat → Int) (n : Int) (x : Int) (k : Nat) : Bool := decide (kdA t n k = x)
/-- where the next token begins, its kind, where it ends -/
def tkS (t : Nat → Int) (n p : Nat) : Nat := runL (kdP t n 4) (n - p) p
def tkK (t : Nat → Int) (n p : Nat) : Int := kdA t n (tkS t n p)
def tkE (t : Nat → Int) (n p : Nat) : Nat := if tkK t n p = 1 ∨ tkK t n p = 2 then runL (kdP t n (tkK t n p)) (n - tkS t n p) (tkS t n p) else if tkK t n p = 0 then tkS t n p else tkS t n p + 1
theorem kdC_4 {c : Int} : kdC c = 4 ↔ c = 32 ∨ c = 10 := by
  unfold kdC
  split
  · omega
  · split
    · omega
    · split
      · rename_i h; exact ⟨fun _ => h, fun _ => rfl⟩
      · split <;> omega
theorem kdC_1 {c : Int} : kdC c = 1 ↔ 97 ≤ c ∧ c ≤ 122 := by
  unfold kdC
  split
  · rename_i h; exact ⟨fun _ => h, fun _ => rfl⟩
  · split
    · omega
    · split
      · omega
      · split <;> omega
theorem kdC_2 {c : Int} : kdC c = 2 ↔ 48 ≤ c ∧ c ≤ 57 := by
  unfold kdC
  split
  · omega
  · split
    · rename_i h; exact ⟨fun _ => h, fun _ => rfl⟩
    · split
      · omega
      · split <;> omega
theorem kdC_3 {c : Int} : kdC c = 3 ↔ c = 59 := by
  unfold kdC
  split
  · omega
  · split
    · omega
    · split
      · omega
      · split <;> omega
theorem kdC_in (c : Int) : 1 ≤ kdC c ∧ kdC c ≤ 5 := by
  unfold kdC
  split
  · omega
  · split
    · omega
    · split
      · omega
      · split <;> omega
section
variable {d : Nat} {I : Nat → Nat → Int} {S : PS}
theorem kindAt_kd (I : Nat → Nat → Int) (x : Int) : f_X10_kindAt I x = kdA (I 33) (I 32 1) x := by
  unfold f_X10_kindAt kdA kdC
  by_cases h : x < I 32 1
  · rw [if_pos h, if_pos h]
    generalize I 33 x.toNat = c
    by_cases a1 : 97 ≤ c ∧ c ≤ 122
    · rw [if_pos a1, if_neg (by omega), if_neg (by omega)]
    · rw [if_neg a1]
      by_cases a2 : c < 97
      · rw [if_pos a2]
        by_cases a3 : 48 ≤ c ∧ c ≤ 57
        · rw [if_pos a3, if_neg (by omega), if_neg (by omega)]
        · rw [if_neg a3]
          have e : (if c = 32 then (4 : Int) else (if c ≠ 10 then ((if c ≠ 59 then (5 : Int) else 3) : Int) else 4)) = if c = 32 ∨ c = 10 then 4 else if c = 59 then 3 else 5 := by
            by_cases b1 : c = 32
            · rw [if_pos b1, if_pos (Or.inl b1)]
            · rw [if_neg b1]
              by_cases b2 : c = 10
              · rw [if_neg (show ¬(c ≠ 10) from fun q => q b2), if_pos (Or.inr b2)]
              · rw [if_pos b2, if_neg (show ¬(c = 32 ∨ c = 10) from fun q => q.elim b1 b2)]
                by_cases b3 : c = 59
                · rw [if_neg (show ¬(c ≠ 59) from fun q => q b3), if_pos b3]
                · rw [if_pos b3, if_neg b3]
          by_cases a4 : c < 48
          · rw [if_pos a4]; exact e
          · rw [if_neg a4, if_pos (by omega)]; exact e
      · rw [if_neg a2, if_pos (by omega), if_neg (by omega), if_pos (by omega), if_neg (by omega), if_pos (by omega), if_pos (by omega), if_neg (by omega), if_neg (by omega), if_neg (by omega)]
  · rw [if_neg h, if_neg h]
/-- the number's value, the class's -/
def cvS (t : Nat → Int) (st : Nat) : Nat → Int
  | 0 => 0
  | k + 1 => p_min (((cvS t st k * 10) + t (st + k)) - 48) 10000
def H4 (I : Nat → Nat → Int) (a b c e : Int) : Nat → Nat → Int := up2 (up2 (up2 (up2 I 32 2 a) 32 4 b) 32 5 c) 32 3 e
theorem H4_52 (I : Nat → Nat → Int) (a b c e a' c' : Int) : up2 (up2 (H4 I a b c e) 32 5 c') 32 2 a' = H4 I a' b c' e := by
  funext x k
  unfold H4 up2
  by_cases h2 : x = 32 ∧ k = 2
  · obtain ⟨rfl, rfl⟩ := h2; rfl
  · by_cases h3 : x = 32 ∧ k = 3
    · obtain ⟨rfl, rfl⟩ := h3; rfl
    · by_cases h4 : x = 32 ∧ k = 4
      · obtain ⟨rfl, rfl⟩ := h4; rfl
      · by_cases h5 : x = 32 ∧ k = 5
        · obtain ⟨rfl, rfl⟩ := h5; rfl
        · rw [if_neg h2, if_neg h5, if_neg h3]
          rw [if_neg h5, if_neg h4, if_neg h2, if_neg h3, if_neg h5, if_neg h4, if_neg h2]
theorem H4_2 (I : Nat → Nat → Int) (a b c e a' : Int) : up2 (H4 I a b c e) 32 2 a' = H4 I a' b c e := by
  have := H4_52 I a b c e a' c
  rw [← this]
  congr 1
  funext x k
  unfold up2 H4
  by_cases h5 : x = 32 ∧ k = 5
  · obtain ⟨rfl, rfl⟩ := h5; rfl
  · rw [if_neg h5]
theorem H4_5 (I : Nat → Nat → Int) (a b c e c' : Int) : up2 (H4 I a b c e) 32 5 c' = H4 I a b c' e := by
  have := H4_52 I a b c e a c'
  rw [← this]
  funext x k
  unfold up2 H4
  by_cases h5 : x = 32 ∧ k = 2
  · obtain ⟨rfl, rfl⟩ := h5; rfl
  · rw [if_neg h5]
theorem up2_up2 (I : Nat → Nat → Int) (a k : Nat) (v w : Int) : up2 (up2 I a k v) a k w = up2 I a k w := by
  funext x j
  unfold up2
  by_cases h : x = a ∧ j = k
  · rw [if_pos h, if_pos h]
  · rw [if_neg h, if_neg h, if_neg h]
theorem up2_self (I : Nat → Nat → Int) (a k : Nat) : up2 I a k (I a k) = I := by
  funext x j
  unfold up2
  by_cases h : x = a ∧ j = k
  · rw [if_pos h, h.1, h.2]
  · rw [if_neg h]
def adV (t : Nat → Int) (n p : Nat) : Int := if tkK t n p = 2 then (if 4 < (tkE t n p : Int) - tkS t n p then 10000 else cvS t (tkS t n p) (tkE t n p - tkS t n p)) else 0
def adI (I : Nat → Nat → Int) : Nat → Nat → Int := H4 I (tkE (I 33) (I 32 1).toNat (I 32 2).toNat) (tkS (I 33) (I 32 1).toNat (I 32 2).toNat) (adV (I 33) (I 32 1).toNat (I 32 2).toNat) (tkK (I 33) (I 32 1).toNat (I 32 2).toNat)
theorem cvS_in {t : Nat → Int} {st : Nat} : ∀ {k : Nat}, (∀ j, j < k → 48 ≤ t (st + j) ∧ t (st + j) ≤ 57) → 0 ≤ cvS t st k ∧ cvS t st k ≤ 10000
  | 0, _ => ⟨Int.le_refl 0, by show (0 : Int) ≤ 10000; decide⟩
  | k + 1, h => by
    have h1 := cvS_in (k := k) (fun j hj => h j (by omega))
    have h2 := h k (by omega)
    unfold cvS
    rw [p_min_eq (by omega) (by omega)]
    omega
theorem c_X10_advance (hl0 : LyX10 S) (hn : 0 ≤ I 32 1 ∧ I 32 1 ≤ 700) (hp : 0 ≤ I 32 2 ∧ I 32 2 ≤ I 32 1) : Ca (d + 1) mX10_advance [vR (some (20, 0, 32))] (I, S) (.inl none) (adI I, S) := by
  refine w_X10_advance_in ?_
  obtain ⟨n, hn0⟩ := Int.eq_ofNat_of_zero_le hn.1
  obtain ⟨p0, hp0⟩ := Int.eq_ofNat_of_zero_le hp.1
  obtain ⟨t, ht⟩ : ∃ t, t = I 33 := ⟨_, rfl⟩
  have hA : adI I = H4 I (tkE t n p0) (tkS t n p0) (adV t n p0) (tkK t n p0) := by
    unfold adI; rw [← ht, hn0, hp0]; rfl
  rw [hA]
  have hkd : ∀ J, J 33 = I 33 → J 32 1 = I 32 1 → ∀ x, f_X10_kindAt J x = kdA t n x := fun J h1 h2 x => by rw [kindAt_kd, h1, h2, ← ht, hn0]
  obtain ⟨st, hst⟩ : ∃ q, q = tkS t n p0 := ⟨_, rfl⟩
  obtain ⟨kp, hkp⟩ : ∃ q, q = tkK t n p0 := ⟨_, rfl⟩
  obtain ⟨en, hen⟩ : ∃ q, q = tkE t n p0 := ⟨_, rfl⟩
  have hkp2 : kp = kdA t n st := by rw [hkp, hst]; rfl
  have hstn : st ≤ n := by
    have := runL_le (kdP t n 4) (n - p0) p0
    rw [hst]; unfold tkS; omega
  -- the token itself
  have body : ∀ (j p : Nat) (c : Int) (J : Nat → Nat → Int), J = H4 I p st c kp → p + j = n → st ≤ p → (kp = 1 ∨ kp = 2) → runL (kdP t n kp) (n - p) p = en → (kp = 2 → c = cvS t st (p - st)) → (kp ≠ 2 → c = 0) → (∀ i, i < p - st → kdA t n ((st + i : Nat) : Int) = kp) → L_X10_advance_102 d 32 J S (H4 I en st (adV t n p0) kp, S) := by
    intro j
    induction j with
    | zero =>
      intro p c J hJ hj hsp hk hr hc1 hc2 hall
      have j1 : J 32 1 = n := by rw [hJ]; exact hn0
      have j2 : J 32 2 = p := by rw [hJ]; rfl
      have j3 : J 32 3 = kp := by rw [hJ]; rfl
      have j4 : J 32 4 = st := by rw [hJ]; rfl
      have hpe : p = en := by rw [← hr, show n - p = 0 by omega]; rfl
      refine w_X10_advance_102 hl0 (fun h => absurd h (by omega)) (fun _ h => ?_) (fun _ h h2 => ?_) (fun _ h h2 => ?_) (fun h => absurd h (by omega)) (fun h => absurd h (by omega)) (fun h => absurd h (by omega)) (v6 := fun h => absurd h (by omega)) (v7 := fun h => absurd h (by omega))
      · rw [j3] at h
        unfold adV; rw [hJ, ← hkp, if_neg h, hc2 h, hpe]
      · rw [j3] at h
        unfold adV; rw [hJ, ← hkp, if_pos h, ← hen, ← hst, if_neg (by omega), hc1 h, hpe]
      · rw [j3] at h
        unfold adV; rw [hJ, ← hkp, if_pos h, ← hen, ← hst, if_pos (by omega), hpe]
        rw [H4_5]
    | succ j ih =>
      intro p c J hJ hj hsp hk hr hc1 hc2 hall
      have j1 : J 32 1 = n := by rw [hJ]; exact hn0
      have j2 : J 32 2 = p := by rw [hJ]; rfl
      have j3 : J 32 3 = kp := by rw [hJ]; rfl
      have j4 : J 32 4 = st := by rw [hJ]; rfl
      have j5 : J 32 5 = c := by rw [hJ]; rfl
      have j33 : J 33 = t := by rw [hJ]; exact ht.symm
      have ek := hkd J (by rw [j33, ht]) (by rw [j1, hn0])
      have hru : runL (kdP t n kp) (n - p) p = if kdP t n kp p = true then runL (kdP t n kp) (n - (p + 1)) (p + 1) else p := by
        rw [show n - p = (n - (p + 1)) + 1 by omega]; rfl
      have hdig : ∀ i, i < p - st → kp = 2 → 48 ≤ t (st + i) ∧ t (st + i) ≤ 57 := fun i hi h2 => by
        have := hall i hi
        unfold kdA at this
        rw [if_pos (by omega), h2, Int.toNat_natCast] at this
        exact kdC_2.mp this
      have hcb : 0 ≤ c ∧ c ≤ 10000 := by
        by_cases h2 : kp = 2
        · rw [hc1 h2]; exact cvS_in (fun i hi => hdig i hi h2)
        · rw [hc2 h2]; omega
      have htp : kdA t n p = 2 → 48 ≤ t p ∧ t p ≤ 57 := fun q => by
        unfold kdA at q
        rw [if_pos (by omega), Int.toNat_natCast] at q
        exact kdC_2.mp q
      have hfin : kdA t n p ≠ kp → p = en := fun hne => by rw [← hr, hru, if_neg (by unfold kdP; rw [decide_eq_false hne]; decide)]
      refine w_X10_advance_102 hl0 (fun _ hq => ?_) (fun h => absurd h (by omega)) (fun h => absurd h (by omega)) (fun h => absurd h (by omega)) (fun _ hq h => ?_) (fun _ hq h h2 => ?_) (fun _ hq h h2 => ?_) (v6 := fun _ hq h => ?_) (v7 := fun _ hq h => ?_)
      · rw [ek, j2, j3] at hq
        rw [j2, j3, j5, j33, Int.toNat_natCast]
        refine ih (p + 1) _ _ (by rw [hJ, H4_52]; rfl) (by omega) (by omega) hk ?_ (fun h2 => ?_) (fun h2 => ?_) (fun i hi => ?_)
        · rw [← hr, hru, if_pos (by unfold kdP; rw [decide_eq_true hq])]
        · rw [if_neg (fun q => q h2), hc1 h2, show p + 1 - st = (p - st) + 1 by omega]
          show _ = p_min (((cvS t st (p - st) * 10) + t (st + (p - st))) - 48) 10000
          rw [show st + (p - st) = p by omega]
        · rw [if_pos h2]
        · by_cases e : i = p - st
          · rw [e, show ((st + (p - st) : Nat) : Int) = (p : Int) by omega]; exact hq
          · exact hall i (by omega)
      · rw [ek, j2, j3] at hq
        rw [j3] at h
        unfold adV; rw [hJ, ← hkp, if_neg h, hc2 h, hfin hq]
      · rw [ek, j2, j3] at hq
        rw [j3] at h
        have := hfin hq
        unfold adV; rw [hJ, ← hkp, if_pos h, ← hen, ← hst, if_neg (by omega), hc1 h, this]
      · rw [ek, j2, j3] at hq
        rw [j3] at h
        have := hfin hq
        unfold adV; rw [hJ, ← hkp, if_pos h, ← hen, ← hst, if_pos (by omega), this]
        rw [H4_5]
      · rw [ek, j2, j3] at hq
        rw [j3] at h
        have := htp (by rw [hq, h])
        rw [j5, j33, j2, Int.toNat_natCast]; omega
      · rw [ek, j2, j3] at hq
        rw [j3] at h
        have := htp (by rw [hq, h])
        rw [j5, j33, j2, Int.toNat_natCast]; omega
  -- the token's beginning
  have begin_ : ∀ J, J = up2 I 32 2 st → (kp = 4 → False) → L_X10_advance_0 d 32 J S (H4 I en st (adV t n p0) kp, S) := by
    intro J hJ hk4
    have j1 : J 32 1 = n := by rw [hJ]; exact hn0
    have j2 : J 32 2 = st := by rw [hJ]; rfl
    have ek := hkd J (by rw [hJ]; rfl) (by rw [hJ]; rfl)
    have ek2 := hkd (up2 (up2 J 32 4 (J 32 2)) 32 5 0) (by rw [hJ]; rfl) (by rw [hJ]; rfl)
    have hH : ∀ x, up2 (up2 (up2 J 32 4 (J 32 2)) 32 5 0) 32 3 x = H4 I st st 0 x := fun x => by rw [j2, hJ]; rfl
    have go : (kp = 1 ∨ kp = 2) → ∀ x, x = kp → L_X10_advance_102 d 32 (up2 (up2 (up2 J 32 4 (J 32 2)) 32 5 0) 32 3 x) S (H4 I en st (adV t n p0) kp, S) := fun hk x hx => by
      refine body (n - st) st 0 _ (by rw [hH, hx]) (by omega) (Nat.le_refl st) hk ?_ (fun _ => by rw [Nat.sub_self]; rfl) (fun _ => rfl) (fun i hi => absurd hi (by omega))
      rw [hen]; unfold tkE; rw [← hkp, if_pos hk, ← hst]
    have fin : kp ≠ 1 → kp ≠ 2 → ∀ x, x = kp → (up2 (up2 (up2 (up2 J 32 4 (J 32 2)) 32 5 0) 32 3 x) 32 2 (if x ≠ 0 then (J 32 2 + 1 : Int) else J 32 2), S) = (H4 I en st (adV t n p0) kp, S) := fun h1 h2 x hx => by
      rw [hH, hx, H4_2, j2]
      unfold adV
      rw [← hkp, if_neg h2]
      congr 2
      rw [hen]; unfold tkE
      rw [← hkp, if_neg (show ¬(kp = 1 ∨ kp = 2) from fun q => q.elim h1 h2), ← hst]
      by_cases h0 : kp = 0
      · rw [if_neg (show ¬(kp ≠ 0) from fun q => q h0), if_pos h0]
      · rw [if_pos h0, if_neg h0]; rfl
    have kx : f_X10_kindAt (up2 (up2 J 32 4 (J 32 2)) 32 5 0) (J 32 2) = kp := by rw [ek2, j2, hkp2]
    refine w_X10_advance_0 hl0 (fun _ h => go (Or.inl (by rw [← kx]; exact h)) _ kx) (fun _ _ h => go (Or.inr (by rw [← kx]; exact h)) _ kx) (fun _ _ h => go (Or.inl (by rw [← kx]; exact h)) _ kx) (fun _ _ _ h => go (Or.inr (by rw [← kx]; exact h)) _ kx) (fun _ h => ?_) (fun _ h1 h2 => fin (by rw [← kx]; exact h1) (by rw [← kx]; exact h2) _ kx) (fun _ _ h1 h2 => fin (by rw [← kx]; exact h1) (by rw [← kx]; exact h2) _ kx)
    exfalso
    rw [ek, j2, ← hkp2] at h
    exact hk4 h
  -- blanks
  have skip : ∀ (j p : Nat) (J : Nat → Nat → Int), J = up2 I 32 2 p → p + j = n → runL (kdP t n 4) (n - p) p = st → L_X10_advance_0 d 32 J S (H4 I en st (adV t n p0) kp, S) := by
    intro j
    induction j with
    | zero =>
      intro p J hJ hj hr
      have hps : p = st := by rw [← hr, show n - p = 0 by omega]; rfl
      refine begin_ J (by rw [hJ, hps]) (fun h4 => ?_)
      rw [hkp2] at h4
      unfold kdA at h4
      rw [if_neg (by omega)] at h4
      cases h4
    | succ j ih =>
      intro p J hJ hj hr
      have hru : runL (kdP t n 4) (n - p) p = if kdP t n 4 p = true then runL (kdP t n 4) (n - (p + 1)) (p + 1) else p := by
        rw [show n - p = (n - (p + 1)) + 1 by omega]; rfl
      by_cases h4 : kdA t n p = 4
      · have j1 : J 32 1 = n := by rw [hJ]; exact hn0
        have j2 : J 32 2 = p := by rw [hJ]; rfl
        have ek := hkd J (by rw [hJ]; rfl) (by rw [hJ]; rfl)
        refine w_X10_advance_0 hl0 (fun h => absurd h (by omega)) (fun h => absurd h (by omega)) (fun _ h => absurd (by rw [ek, j2]; exact h4) h) (fun _ h => absurd (by rw [ek, j2]; exact h4) h) (fun _ _ => ?_) (fun h => absurd h (by omega)) (fun _ h => absurd (by rw [ek, j2]; exact h4) h)
        refine ih (p + 1) _ ?_ (by omega) ?_
        · rw [j2, hJ, up2_up2]; rfl
        · rw [← hr, hru, if_pos (by unfold kdP; rw [decide_eq_true h4])]
      · have hps : p = st := by rw [← hr, hru, if_neg (by unfold kdP; rw [decide_eq_false h4]; decide)]
        refine begin_ J (by rw [hJ, hps]) (fun q => h4 ?_)
        rw [hps, ← hkp2]; exact q
  rw [← hst, ← hkp, ← hen]
  refine skip (n - p0) p0 I (by rw [← hp0]; exact (up2_self I 32 2).symm) (by omega) ?_
  rw [hst]; rfl
end
end
