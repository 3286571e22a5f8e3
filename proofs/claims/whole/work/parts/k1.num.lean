/-! ===== numbers that are read, and spots: the class's ===== -/
noncomputable section
/-- what is wrong with a number: 0, 1 no number, 2 out of its range -/
def nfK (t : Nat → Int) (n q : Nat) (lo hi : Int) : Int := if tkK t n q = 2 then (if (tkE t n q : Int) - tkS t n q ≤ 4 ∧ lo ≤ gsV t n q ∧ gsV t n q ≤ hi then 0 else 2) else 1
section
variable {d : Nat} {I J K : Nat → Nat → Int} {S : PS} {m n p q : Nat} {t : Nat → Int} {lo hi : Int}
theorem vl_nf (hlo : lo ≤ 10000) (hhi : hi < 10000) : (if tkK t n q = 2 then ((if vlC t n q < lo then (2 : Int) else (if vlC t n q ≤ hi then (0 : Int) else 2)) : Int) else 1) = nfK t n q lo hi := by
  unfold nfK
  by_cases c : tkK t n q = 2
  · rw [if_pos c, if_pos c]
    unfold vlC
    rw [if_pos c]
    have hv := gsV_in (t := t) (n := n) (p := q)
    by_cases l : 4 < (tkE t n q : Int) - tkS t n q
    · rw [if_pos l, if_neg (by omega), if_neg (by omega), if_neg (by omega)]
    · rw [if_neg l]
      by_cases a : gsV t n q < lo
      · rw [if_pos a, if_neg (by omega)]
      · rw [if_neg a]
        by_cases b : gsV t n q ≤ hi
        · rw [if_pos b, if_pos (by omega)]
        · rw [if_neg b, if_neg (by omega)]
  · rw [if_neg c, if_neg c]
theorem nf_0 (h : nfK t n q lo hi = 0) : tkK t n q = 2 ∧ (tkE t n q : Int) - tkS t n q ≤ 4 ∧ lo ≤ gsV t n q ∧ gsV t n q ≤ hi ∧ vlC t n q = gsV t n q := by
  unfold nfK at h
  by_cases c : tkK t n q = 2
  · rw [if_pos c] at h
    by_cases l : (tkE t n q : Int) - tkS t n q ≤ 4 ∧ lo ≤ gsV t n q ∧ gsV t n q ≤ hi
    · refine ⟨c, l.1, l.2.1, l.2.2, ?_⟩
      unfold vlC
      rw [if_pos c, if_neg (by omega)]
    · rw [if_neg l] at h; exact absurd h (by decide)
  · rw [if_neg c] at h; exact absurd h (by decide)
theorem nf_in : nfK t n q lo hi = 0 ∨ nfK t n q lo hi = 1 ∨ nfK t n q lo hi = 2 := by
  unfold nfK
  split
  · split
    · exact Or.inl rfl
    · exact Or.inr (Or.inr rfl)
  · exact Or.inr (Or.inl rfl)
theorem nf_kind (h : tkK t n q = 2) : nfK t n q lo hi = 0 ∨ nfK t n q lo hi = 2 := by
  unfold nfK
  rw [if_pos h]
  split
  · exact Or.inl rfl
  · exact Or.inr rfl
theorem nf_no (h : tkK t n q ≠ 2) : nfK t n q lo hi = 1 := by unfold nfK; rw [if_neg h]
theorem ck_C (hl0 : LyX10 S) (hk : TKc J t n q) (hlo : lo ≤ 10000) (hhi : hi < 10000) : Ca d mX5_checkNumber [vR (some (20, 0, 32)), vI lo, vI hi] (J, S) (.inl (some (vI (nfK t n q lo hi)))) (J, S) := by
  have h := c_X5_checkNumber (d := d) (I := J) (S := S) (x1 := lo) (x2 := hi) hl0
  rw [hk.2.2.2.1, hk.2.2.2.2, vl_nf hlo hhi] at h
  exact h
theorem rn_C (hl0 : LyX10 S) (hx : txR (J 33) t) (h1 : J 32 1 = (n : Int)) (h2 : J 32 2 = (q : Int)) (hn : n ≤ 700) (hq : q ≤ n) (hlo : lo ≤ 10000) (hhi : hi < 10000) : Ca (d + 2) mX5_readNumber [vR (some (20, 0, 32)), vI lo, vI hi] (J, S) (.inl (some (vI (nfK t n q lo hi)))) (adI J, S) ∧ TKc (adI J) t n q ∧ ∀ a, a ≠ 32 → adI J a = J a := by
  obtain ⟨a1, a2, a3⟩ := ad_C (d := d) hl0 hx h1 h2 hn hq
  have h := c_X5_readNumber (d := d) (I := J) (S := S) (x1 := lo) (x2 := hi) hl0 (by omega) (by omega)
  rw [a2.2.2.2.1, a2.2.2.2.2, vl_nf hlo hhi] at h
  exact ⟨h, a2, a3⟩
/-- the reference's -/
theorem nh_y (hl0 : LyX12 S) (hk : TKm J t n q) (h3 : J 156 3 = 0) (h0 : nfK t n q lo hi = 0) : Ca (d + 1) mX12_numberHere [vR (some (22, 0, 156)), vI lo, vI hi] (J, S) (.inl (some (vI (gsV t n q)))) (J, S) := by
  obtain ⟨c1, c2, c3, c4, _⟩ := nf_0 h0
  have h := c_X12_numberHere (d := d) (I := J) (S := S) (x1 := lo) (x2 := hi) hl0
  have h8 : J 156 8 = 2 := hk.2.2.2.1.trans (msK_2.mpr c1)
  have h10 : ¬(4 < J 156 10) := by rw [hk.2.2.2.2.1]; omega
  have h11 : ¬(J 156 11 < lo) := by rw [hk.2.2.2.2.2.1]; omega
  have h12 : J 156 11 ≤ hi := by rw [hk.2.2.2.2.2.1]; omega
  simp only [if_pos h3, if_pos h8, if_neg h10, if_neg h11, if_pos h12] at h
  rw [hk.2.2.2.2.2.1] at h
  exact h
theorem nh_n (hl0 : LyX12 S) (hk : TKm J t n q) (h3 : J 156 3 = 0) (h0 : nfK t n q lo hi ≠ 0) : Ca (d + 1) mX12_numberHere [vR (some (22, 0, 156)), vI lo, vI hi] (J, S) (.inl (some (vI (gsV t n q)))) (up2 (up2 J 156 3 (nfK t n q lo hi)) 156 4 (tkS t n q : Int), S) := by
  have h := c_X12_numberHere (d := d) (I := J) (S := S) (x1 := lo) (x2 := hi) hl0
  have e11 : ∀ v : Int, (up2 (up2 J 156 3 v) 156 4 (J 156 9)) 156 11 = J 156 11 := fun v => rfl
  unfold nfK at h0 ⊢
  by_cases c : tkK t n q = 2
  · rw [if_pos c] at h0 ⊢
    have l : ¬((tkE t n q : Int) - tkS t n q ≤ 4 ∧ lo ≤ gsV t n q ∧ gsV t n q ≤ hi) := fun w => h0 (if_pos w)
    rw [if_neg l]
    have h8 : J 156 8 = 2 := hk.2.2.2.1.trans (msK_2.mpr c)
    by_cases h10 : 4 < J 156 10
    · simp only [if_pos h3, if_pos h8, if_pos h10] at h
      rw [e11, hk.2.2.2.2.2.1, hk.2.2.1] at h
      exact h
    · by_cases h11 : J 156 11 < lo
      · simp only [if_pos h3, if_pos h8, if_neg h10, if_pos h11] at h
        rw [e11, hk.2.2.2.2.2.1, hk.2.2.1] at h
        exact h
      · have h12 : ¬(J 156 11 ≤ hi) := fun w => l ⟨by rw [hk.2.2.2.2.1] at h10; omega, by rw [hk.2.2.2.2.2.1] at h11; omega, by rw [hk.2.2.2.2.2.1] at w; exact w⟩
        simp only [if_pos h3, if_pos h8, if_neg h10, if_neg h11, if_neg h12] at h
        rw [e11, hk.2.2.2.2.2.1, hk.2.2.1] at h
        exact h
  · rw [if_neg c]
    have h8 : ¬(J 156 8 = 2) := fun w => c (msK_2.mp (hk.2.2.2.1.symm.trans w))
    simp only [if_pos h3, if_neg h8] at h
    rw [e11, hk.2.2.2.2.2.1, hk.2.2.1] at h
    exact h
theorem nh_0 (hl0 : LyX12 S) (h3 : ¬J 156 3 = 0) : Ca (d + 1) mX12_numberHere [vR (some (22, 0, 156)), vI lo, vI hi] (J, S) (.inl (some (vI 0))) (J, S) := by
  have h := c_X12_numberHere (d := d) (I := J) (S := S) (x1 := lo) (x2 := hi) hl0
  simp only [if_neg h3] at h
  exact h
theorem wr_y {k : Int} (hl0 : LyX12 S) (h3 : J 156 3 = 0) : Ca d mX12_wrong [vR (some (22, 0, 156)), vI k] (J, S) (.inl none) (up2 (up2 J 156 3 k) 156 4 (J 156 9), S) := by
  have h := c_X12_wrong (d := d) (I := J) (S := S) (x1 := k) hl0
  rw [if_pos h3] at h
  exact h
theorem wr_n {k : Int} (hl0 : LyX12 S) (h3 : ¬J 156 3 = 0) : Ca d mX12_wrong [vR (some (22, 0, 156)), vI k] (J, S) (.inl none) (J, S) := by
  have h := c_X12_wrong (d := d) (I := J) (S := S) (x1 := k) hl0
  rw [if_neg h3] at h
  exact h
end
/-- neighbours that are read: what is wrong and at which token, or how many, the token behind them, the row -/
def spL (t : Nat → Int) (n N : Nat) : Nat → Nat → Nat → (Nat → Int) → (Int × Nat) ⊕ (Nat × Nat × (Nat → Int))
  | 0, _, q, _ => .inl (2, q)
  | f + 1, i, q, A => if tkK t n q = 2 then
      (if nfK t n q 0 11 ≠ 0 ∨ 9 ≤ i then .inl (2, q)
       else if gsV t n q = (N : Int) ∨ anyB (fun k => decide (A (10 * N + 1 + k) = gsV t n q)) i = true then .inl (4, q)
       else spL t n N f (i + 1) (tkE t n q) (up1 A (10 * N + 1 + i) (gsV t n q)))
    else if i = 0 then .inl (1, q) else .inr (i, q, A)
section
variable {d : Nat} {I J K : Nat → Nat → Int} {S : PS} {U n N q : Nat} {t : Nat → Int}
/-- the class's spot while it is read -/
def spC (J : Nat → Nat → Int) (U N i : Nat) (A : Nat → Int) : Prop := J U 6 = (N : Int) ∧ J (U + 4) N = (i : Int) ∧ (isI (J (U + 5) N) ∧ ∀ b, b < 32 → bt (J (U + 5) N) b = anyB (fun k => decide (A (10 * N + 1 + k) = (b : Int))) i) ∧ ∀ k, k < i → J (U + 6) (9 * N + k) = A (10 * N + 1 + k)
def spW (U a : Nat) : Prop := a = 32 ∨ a = U ∨ a = U + 4 ∨ a = U + 5 ∨ a = U + 6
/-- what a spot that is read leaves alone -/
def spG (U N : Nat) (I J : Nat → Nat → Int) : Prop := (∀ a, ¬spW U a → J a = I a) ∧ (∀ k, k ≠ 6 → J U k = I U k) ∧ (∀ s, s ≠ N → J (U + 4) s = I (U + 4) s ∧ J (U + 5) s = I (U + 5) s) ∧ ∀ k, ¬(9 * N ≤ k ∧ k < 9 * N + 9) → J (U + 6) k = I (U + 6) k
theorem an_C {A : Nat → Int} {i : Nat} {v : Int} (hU : U = 34 ∨ U = 77) (hl1 : LyX0 S U) (hN : N < 12) (hi : i < 9) (hc : spC J U N i A) (hv : 0 ≤ v ∧ v < 12) : (¬(v = (N : Int) ∨ anyB (fun k => decide (A (10 * N + 1 + k) = v)) i = true) → ∃ J', Ca d mX0_addNeighbour [vR (some (11, 0, U)), vI v] (J, S) (.inl (some (vI 1))) (J', S) ∧ spG U N J J' ∧ J' 32 = J 32 ∧ spC J' U N (i + 1) (up1 A (10 * N + 1 + i) v)) ∧ ((v = (N : Int) ∨ anyB (fun k => decide (A (10 * N + 1 + k) = v)) i = true) → Ca d mX0_addNeighbour [vR (some (11, 0, U)), vI v] (J, S) (.inl (some (vI 0))) (J, S)) := by
  obtain ⟨e6, e4, ⟨e5, eb⟩, en⟩ := hc
  obtain ⟨b, rfl⟩ : ∃ b : Nat, v = (b : Int) := ⟨v.toNat, by omega⟩
  have hbt := eb b (by omega)
  have ht := p_tst_0 (x := J (U + 5) N) (s := (b : Int)) (by omega)
  rw [Int.toNat_natCast, hbt] at ht
  have x6 : ∀ k, (up2 J (U + 6) k (b : Int)) U 6 = (N : Int) := fun k => by rw [up2_a _ (by omega)]; exact e6
  have x7 : ∀ k1 k2 w, (up2 (up2 J (U + 6) k1 (b : Int)) (U + 5) k2 w) U 6 = (N : Int) := fun k1 k2 w => by rw [up2_a _ (by omega), up2_a _ (by omega)]; exact e6
  have x5 : ∀ k, (up2 J (U + 6) k (b : Int)) (U + 5) N = J (U + 5) N := fun k => up2_a _ (by omega)
  have p1 : 0 ≤ J U 6 ∧ J U 6 < (12 : Nat) := by rw [e6]; omega
  have p3 : -2147483648 ≤ ((J U 6) * 9) + (J (U + 4) (J U 6).toNat) ∧ ((J U 6) * 9) + (J (U + 4) (J U 6).toNat) ≤ 2147483647 := by rw [e6, Int.toNat_natCast, e4]; omega
  have p4 : 0 ≤ ((J U 6) * 9) + (J (U + 4) (J U 6).toNat) ∧ ((J U 6) * 9) + (J (U + 4) (J U 6).toNat) < (108 : Nat) := by rw [e6, Int.toNat_natCast, e4]; omega
  have p6 : -2147483648 ≤ (J (U + 4) (J U 6).toNat) + 1 ∧ (J (U + 4) (J U 6).toNat) + 1 ≤ 2147483647 := by rw [e6, Int.toNat_natCast, e4]; omega
  refine ⟨fun hq => ?_, fun hq => ?_⟩
  · have hP : ((b : Int) ≠ J U 6) ∧ ((p_and (p_shr (J (U + 5) (J U 6).toNat) (b : Int)) 1 = 0) ∧ (J (U + 4) (J U 6).toNat < 9)) := by
      rw [e6, Int.toNat_natCast, e4]
      refine ⟨fun w => hq (Or.inl w), ht.mpr ?_, by omega⟩
      cases w : anyB (fun k => decide (A (10 * N + 1 + k) = (b : Int))) i with
      | false => rfl
      | true => exact absurd (Or.inr w) hq
    have h := c_X0_addNeighbour_y (d := d) (I := J) (S := S) (a0 := U) (x1 := (b : Int)) hl1 p1 (fun _ _ _ => by rw [e6]; omega) (fun _ _ _ => p3) (fun _ _ _ => p4) (fun _ _ _ => by rw [x6]; omega) (fun _ _ _ => p6) (fun _ _ _ => by rw [x7]; omega) hP
    simp only [x7, x6, e6, Int.toNat_natCast, e4, x5] at h
    rw [show ((N : Int) * 9 + (i : Int)).toNat = 9 * N + i by omega] at h
    refine ⟨_, h, ⟨fun a ha => ?_, fun k hk => ?_, fun s hs => ⟨?_, ?_⟩, fun k hk => ?_⟩, ?_, ?_, ?_, ⟨?_, fun b' hb' => ?_⟩, fun k hk => ?_⟩
    · unfold spW at ha
      funext k
      rw [up2_a _ (by omega), up2_a _ (by omega), up2_a _ (by omega)]
    · rw [up2_a _ (by omega), up2_a _ (by omega), up2_a _ (by omega)]
    · rw [up2_k _ hs, up2_a _ (by omega), up2_a _ (by omega)]
    · rw [up2_a _ (by omega), up2_k _ hs, up2_a _ (by omega)]
    · rw [up2_a _ (by omega), up2_a _ (by omega), up2_k _ (by omega)]
    · funext k
      rw [up2_a _ (by omega), up2_a _ (by omega), up2_a _ (by omega)]
    · rw [up2_a _ (by omega), up2_a _ (by omega), up2_a _ (by omega)]; exact e6
    · rw [up2_same]; rfl
    · rw [up2_a _ (by omega), up2_same]; exact isI_or _ _
    · rw [up2_a _ (by omega), up2_same, bt_or, eb b' hb', bt_bit (by omega), Int.toNat_natCast]
      show _ = (anyB (fun k => decide (up1 A (10 * N + 1 + i) (b : Int) (10 * N + 1 + k) = (b' : Int))) i || decide (up1 A (10 * N + 1 + i) (b : Int) (10 * N + 1 + i) = (b' : Int)))
      rw [up1_same, anyB_congr (p := fun k => decide (up1 A (10 * N + 1 + i) (b : Int) (10 * N + 1 + k) = (b' : Int))) (q := fun k => decide (A (10 * N + 1 + k) = (b' : Int))) (fun k hk => by show decide (up1 A _ _ _ = _) = _; rw [up1_o _ (by omega)])]
      congr 1
      exact decide_eq_decide.mpr (by omega)
    · rw [up2_a _ (by omega), up2_a _ (by omega)]
      by_cases w : k = i
      · rw [w, up2_same, up1_same]
      · rw [up2_k _ (by omega), up1_o _ (by omega)]
        exact en k (by omega)
  · refine c_X0_addNeighbour_n (d := d) (I := J) (S := S) (a0 := U) (x1 := (b : Int)) hl1 p1 (fun _ _ _ => by rw [e6]; omega) (fun _ _ _ => p3) (fun _ _ _ => p4) (fun _ _ _ => by rw [x6]; omega) (fun _ _ _ => p6) (fun _ _ _ => by rw [x7]; omega) (fun w => ?_)
    rw [e6, Int.toNat_natCast] at w
    rcases hq with hq | hq
    · exact w.1 hq
    · rw [ht.mp w.2.1] at hq; cases hq
end
end
