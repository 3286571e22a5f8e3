/-! ===== charges of the class: the same sums ===== -/
noncomputable section
theorem ix_back {k dg : Int} (h : 0 ≤ k ∧ k < dg) : (if k ≤ 0 then dg - 1 else k - 1) = (k + dg - 1) % dg := by
  by_cases h0 : k ≤ 0
  · rw [if_pos h0, show k + dg - 1 = dg - 1 by omega, Int.emod_eq_of_lt (by omega) (by omega)]
  · rw [if_neg h0, show k + dg - 1 = (k - 1) + dg by omega, Int.add_emod_right, Int.emod_eq_of_lt (by omega) (by omega)]
theorem ix_on {k dg : Int} (h : 0 ≤ k ∧ k < dg) : (if dg ≤ k + 1 then 0 else k + 1) = (k + 1) % dg := by
  by_cases h0 : dg ≤ k + 1
  · rw [if_pos h0, show k + 1 = dg by omega, Int.emod_self]
  · rw [if_neg h0, Int.emod_eq_of_lt (by omega) (by omega)]
section
variable {d : Nat} {I : Nat → Nat → Int} {S : PS}
theorem snC_succ (I : Nat → Nat → Int) (a0 a5 : Nat) (x y z w : Int) (n : Nat) : snC I a0 a5 x y z w (n + 1) = snC I a0 a5 x y z w n + (if q_X7_applies I a0 n x y z w = true then I a5 n else 0) := by
  show (if ¬(q_X7_applies I a0 n x y z w = true) then _ else _) = _
  by_cases h : q_X7_applies I a0 n x y z w = true
  · rw [if_neg (fun q => q h), if_pos h]
  · rw [if_pos h, if_neg h, Int.add_zero]
theorem ntC_succ (I : Nat → Nat → Int) (a0 a3 : Nat) (r dg : Int) (k : Nat) : ntC I a0 a3 r dg (k + 1) = ntC I a0 a3 r dg k + ((if q_X7_applies I a0 r (I a3 k) dg (ntX (I a3) dg k) (ntY (I a3) dg k) = true then 1 else 0) - (if q_X7_applies I a0 r dg (I a3 k) (ntX (I a3) dg k) (ntY (I a3) dg k) = true then 1 else 0)) := by
  show (if ¬(q_X7_applies I a0 r dg (I a3 (k : Int).toNat) (ntX (I a3) dg k) (ntY (I a3) dg k) = true) then _ else _) = _
  rw [Int.toNat_natCast]
  by_cases h : q_X7_applies I a0 r dg (I a3 k) (ntX (I a3) dg k) (ntY (I a3) dg k) = true
  · rw [if_neg (fun q => q h), if_pos h]
    by_cases h2 : q_X7_applies I a0 r (I a3 k) dg (ntX (I a3) dg k) (ntY (I a3) dg k) = true
    · rw [if_neg (fun q => q h2), if_pos h2]; omega
    · rw [if_pos h2, if_neg h2]; omega
  · rw [if_pos h, if_neg h]
    by_cases h2 : q_X7_applies I a0 r (I a3 k) dg (ntX (I a3) dg k) (ntY (I a3) dg k) = true
    · rw [if_neg (fun q => q h2), if_pos h2]; omega
    · rw [if_pos h2, if_neg h2]; omega
theorem chN_rule (I : Nat → Nat → Int) (a0 a2 a3 : Nat) (dg : Int) (n : Nat) : ∀ m : Nat, (m : Int) ≤ dg → chN (fun x y z w => snC I a0 a3 x y z w (n + 1)) (I a2) dg m = chN (fun x y z w => snC I a0 a3 x y z w n) (I a2) dg m + I a3 n * ntC I a0 a2 n dg m
  | 0, _ => by
    show 10 * (6 - dg) = 10 * (6 - dg) + I a3 n * 0
    omega
  | k + 1, h => by
    have ih := chN_rule I a0 a2 a3 dg n k (by omega)
    have hX : I a2 (((k : Int) + dg - 1) % dg).toNat = ntX (I a2) dg k := by unfold ntX; rw [ix_back (by omega)]
    have hY : I a2 (((k : Int) + 1) % dg).toNat = ntY (I a2) dg k := by unfold ntY; rw [ix_on (by omega)]
    unfold chN
    rw [ih, ntC_succ, hX, hY]
    rw [snC_succ, snC_succ, Int.mul_add, Int.mul_sub]
    by_cases h1 : q_X7_applies I a0 n (I a2 k) dg (ntX (I a2) dg k) (ntY (I a2) dg k) = true
    · by_cases h2 : q_X7_applies I a0 n dg (I a2 k) (ntX (I a2) dg k) (ntY (I a2) dg k) = true
      · rw [if_pos h1, if_pos h2, if_pos h1, if_pos h2]; omega
      · rw [if_pos h1, if_neg h2, if_pos h1, if_neg h2]; omega
    · by_cases h2 : q_X7_applies I a0 n dg (I a2 k) (ntX (I a2) dg k) (ntY (I a2) dg k) = true
      · rw [if_neg h1, if_pos h2, if_neg h1, if_pos h2]; omega
      · rw [if_neg h1, if_neg h2, if_neg h1, if_neg h2]; omega
theorem chN_zero (f : Nat → Int) (dg : Int) : ∀ m : Nat, chN (fun _ _ _ _ => 0) f dg m = 10 * (6 - dg)
  | 0 => rfl
  | k + 1 => by
    unfold chN
    rw [chN_zero f dg k]
    omega
theorem bhC_chN (I : Nat → Nat → Int) (a0 a2 a3 : Nat) (dg : Int) (hd : 0 ≤ dg) : ∀ n : Nat, bhC I a0 a2 a3 dg n = chN (fun x y z w => snC I a0 a3 x y z w n) (I a2) dg dg.toNat
  | 0 => (chN_zero (I a2) dg _).symm
  | n + 1 => by
    rw [chN_rule I a0 a2 a3 dg n dg.toNat (by omega), ← bhC_chN I a0 a2 a3 dg hd n]
    show _ + (I a3 (n : Int).toNat) * _ = _
    rw [Int.toNat_natCast]
theorem qA_up {a b : Nat} (f : Nat → Int) (h : a + 1 ≠ b) (r x y z w : Int) : q_X7_applies (up1 I b f) a r x y z w = q_X7_applies I a r x y z w := by
  unfold q_X7_applies
  rw [up1_o I h]
theorem snC_up {a a5 b : Nat} (f : Nat → Int) (h : a + 1 ≠ b) (h5 : a5 ≠ b) (x y z w : Int) : ∀ n : Nat, snC (up1 I b f) a a5 x y z w n = snC I a a5 x y z w n
  | 0 => rfl
  | n + 1 => by rw [snC_succ, snC_succ, snC_up f h h5 x y z w n, qA_up f h, up1_o I h5]
def nbC (I : Nat → Nat → Int) (T : Nat) (s : Int) (j : Nat) : Int := I (T + 4) (I (T + 6) (s * 9 + (j : Int)).toNat).toNat
def sC (I : Nat → Nat → Int) (T : Nat) (x y z w : Int) : Int := snC I (T + 2) 129 x y z w (I (T + 2) 0).toNat
/-- the charge behind of a spot, the class's -/
def ccs (I : Nat → Nat → Int) (T : Nat) (s : Int) : Int := chN (sC I T) (nbC I T s) (I (T + 4) s.toNat) (I (T + 4) s.toNat).toNat
def cSp (I : Nat → Nat → Int) (T : Nat) : Prop := (0 ≤ I T 6 ∧ I T 6 ≤ 12) ∧ ∀ s : Int, 0 ≤ s → s < I T 6 → (1 ≤ I (T + 4) s.toNat ∧ I (T + 4) s.toNat ≤ 9) ∧ ∀ k : Nat, (k : Int) < I (T + 4) s.toNat → 0 ≤ I (T + 6) (s * 9 + (k : Int)).toNat ∧ I (T + 6) (s * 9 + (k : Int)).toNat < 12
def cRl (I : Nat → Nat → Int) (T : Nat) : Prop := (0 ≤ I (T + 2) 0 ∧ I (T + 2) 0 ≤ 6) ∧ ∀ k : Nat, (k : Int) < I (T + 2) 0 → 0 ≤ I 129 k ∧ I 129 k ≤ 99
theorem roI_a {T a : Nat} {s : Int} (h : a ≠ 152) : roI I T 152 s a = I a := up1_o I h
theorem k_X11_spotCharge {x1 : Int} {T U : Nat} (hl0 : LyX11 S T U) (hT : T = 34 ∨ T = 77) (hm : cSp I T) (hr : cRl I T) (hs : 0 ≤ x1 ∧ x1 < I T 6) : Ca (d + 4) mX11_spotCharge [vR (some (21, 0, 31)), vI x1] (I, S) (.inl (some (vI (ccs I T x1)))) (roI I T 152 x1, S) := by
  have h1 := hm.2 x1 hs.1 hs.2
  have h2 := hm.1
  have e4 : roI I T 152 x1 (T + 4) = I (T + 4) := roI_a (by omega)
  have e2 : roI I T 152 x1 (T + 2) = I (T + 2) := roI_a (by omega)
  have e9 : roI I T 152 x1 129 = I 129 := roI_a (by omega)
  have e : bhC (roI I T 152 x1) (T + 2) 152 129 (roI I T 152 x1 (T + 4) x1.toNat) (roI I T 152 x1 (T + 2) 0).toNat = ccs I T x1 := by
    rw [e4, e2, bhC_chN _ _ _ _ _ (by omega)]
    unfold roI
    refine chN_congr (by omega) (fun x y z w => snC_up _ (by omega) (by omega) x y z w _) (fun k hk => ?_) _ (by omega)
    rw [up1_same, upTo_in (by omega)]
    rfl
  have h := c_X11_spotCharge (d := d) (I := I) (S := S) (x1 := x1) (T := T) (U := U) hl0 (by omega) (by omega) h1.2 (by omega) (by omega) (by omega) (by rw [e4]; omega) (by rw [e2]; exact hr.1) (by rw [e2, e9]; exact hr.2)
  rw [e] at h
  exact h
end
end
