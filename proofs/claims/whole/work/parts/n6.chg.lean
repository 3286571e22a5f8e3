/-! ===== charges: both sides alike ===== -/
noncomputable section
theorem smI_add (f g : Nat → Int) : ∀ n, smI (fun i => f i + g i) n = smI f n + smI g n
  | 0 => rfl
  | n + 1 => by
    show smI (fun i => f i + g i) n + (f n + g n) = (smI f n + f n) + (smI g n + g n)
    rw [smI_add f g n]; omega
theorem smI_sub (f g : Nat → Int) : ∀ n, smI (fun i => f i - g i) n = smI f n - smI g n
  | 0 => rfl
  | n + 1 => by
    show smI (fun i => f i - g i) n + (f n - g n) = (smI f n + f n) - (smI g n + g n)
    rw [smI_sub f g n]; omega
section
variable {X Z : Nat → Nat → Int} {T R a2 : Nat} {b dg : Int}
/-- rules and amounts of both are alike -/
def rlR (X Z : Nat → Nat → Int) (T R : Nat) (b : Int) : Prop := (∀ r, r < R → ruR X T (Z 160) r) ∧ ∀ r : Nat, r < R → X 129 r = Z 178 (b + 12 + (r : Int)).toNat
theorem ap_eq {r : Nat} (h : ruR X T (Z 160) r) (u v x y : Int) : q_X7_applies X (T + 2) (r : Int) u v x y = q_X12_doesSend Z (r : Int) u v x y := by
  obtain ⟨h1, _, h3⟩ := h
  unfold q_X7_applies q_X12_doesSend
  have c : ∀ k : Nat, k < 8 → X (T + 2 + 1) (8 * r + k) = Z 160 (8 * r + k) := fun k hk => h1 k hk
  have i1 : ((r : Int) * 8 + 1).toNat = 8 * r + 1 := by omega
  have i2 : ((r : Int) * 8 + 1 + 1).toNat = 8 * r + 2 := by omega
  have i3 : ((r : Int) * 8 + 3).toNat = 8 * r + 3 := by omega
  have i4 : ((r : Int) * 8 + 3 + 1).toNat = 8 * r + 4 := by omega
  have i5 : ((r : Int) * 8 + 5).toNat = 8 * r + 5 := by omega
  have i6 : ((r : Int) * 8 + 5 + 1).toNat = 8 * r + 6 := by omega
  have i7 : ((r : Int) * 8 + 7).toNat = 8 * r + 7 := by omega
  have j1 : (8 * (r : Int) + 1).toNat = 8 * r + 1 := by omega
  have j2 : (8 * (r : Int) + 1 + 1).toNat = 8 * r + 2 := by omega
  have j3 : (8 * (r : Int) + 3).toNat = 8 * r + 3 := by omega
  have j4 : (8 * (r : Int) + 3 + 1).toNat = 8 * r + 4 := by omega
  have j5 : (8 * (r : Int) + 5).toNat = 8 * r + 5 := by omega
  have j6 : (8 * (r : Int) + 5 + 1).toNat = 8 * r + 6 := by omega
  have j7 : (8 * (r : Int) + 7).toNat = 8 * r + 7 := by omega
  rw [i1, i2, i3, i4, i5, i6, i7, j1, j2, j3, j4, j5, j6, j7, c 1 (by omega), c 2 (by omega), c 3 (by omega), c 4 (by omega), c 5 (by omega), c 6 (by omega), c 7 (by omega)]
  generalize Z 160 (8 * r + 7) = w at h3 ⊢
  refine decide_eq_decide.mpr (and_congr Iff.rfl (and_congr Iff.rfl ?_))
  rcases (show w = 0 ∨ w = 1 ∨ w = 2 by omega) with e | e | e <;> subst e <;> simp
theorem sn_eq {n : Nat} (h : rlR X Z T R b) (hn : n ≤ R) (u v x y : Int) : snC X (T + 2) 129 u v x y n = snM Z b u v x y n := by
  induction n with
  | zero => rfl
  | succ n ih =>
    show (if ¬(q_X7_applies X (T + 2) n u v x y = true) then (snC X (T + 2) 129 u v x y n : Int) else snC X (T + 2) 129 u v x y n + X 129 n) = snM Z b u v x y n + (if ¬(q_X12_doesSend Z n u v x y = true) then (0 : Int) else Z 178 (b + 12 + (n : Int)).toNat)
    rw [ap_eq (h.1 n (by omega)), ih (by omega), h.2 n (by omega)]
    by_cases c : q_X12_doesSend Z n u v x y = true
    · rw [if_neg (fun w => w c), if_neg (fun w => w c)]
    · rw [if_pos c, if_pos c]; omega
/-- what a rule brings by one neighbour -/
def sgA (Z : Nat → Nat → Int) (dg : Int) (r k : Nat) : Int := (if q_X12_doesSend Z (r : Int) (Z 177 k) dg (Z 177 (((k : Int) + dg - 1) % dg).toNat) (Z 177 (((k : Int) + 1) % dg).toNat) = true then 1 else 0) - (if q_X12_doesSend Z (r : Int) dg (Z 177 k) (Z 177 (((k : Int) + dg - 1) % dg).toNat) (Z 177 (((k : Int) + 1) % dg).toNat) = true then 1 else 0)
theorem snM_sm (u v x y : Int) : ∀ n, snM Z b u v x y n = smI (fun r => if q_X12_doesSend Z (r : Int) u v x y = true then Z 178 (b + 12 + (r : Int)).toNat else 0) n
  | 0 => rfl
  | n + 1 => by
    show snM Z b u v x y n + (if ¬(q_X12_doesSend Z n u v x y = true) then (0 : Int) else Z 178 (b + 12 + (n : Int)).toNat) = smI _ n + (if q_X12_doesSend Z (n : Int) u v x y = true then Z 178 (b + 12 + (n : Int)).toNat else 0)
    rw [snM_sm u v x y n]
    by_cases c : q_X12_doesSend Z n u v x y = true
    · rw [if_neg (fun w => w c), if_pos c]
    · rw [if_pos c, if_neg c]
theorem chD_sm (hc : Z 156 14 = (R : Int)) (k : Nat) : chD Z b dg k = smI (fun r => Z 178 (b + 12 + (r : Int)).toNat * sgA Z dg r k) R := by
  unfold chD
  rw [hc, Int.toNat_natCast, Int.toNat_natCast, snM_sm, snM_sm, ← smI_sub]
  refine smI_cg (fun r _ => ?_)
  unfold sgA
  by_cases c1 : q_X12_doesSend Z (r : Int) (Z 177 k) dg (Z 177 (((k : Int) + dg - 1) % dg).toNat) (Z 177 (((k : Int) + 1) % dg).toNat) = true
  · rw [if_pos c1, if_pos c1]
    by_cases c2 : q_X12_doesSend Z (r : Int) dg (Z 177 k) (Z 177 (((k : Int) + dg - 1) % dg).toNat) (Z 177 (((k : Int) + 1) % dg).toNat) = true
    · rw [if_pos c2, if_pos c2]; simp
    · rw [if_neg c2, if_neg c2]; simp
  · rw [if_neg c1, if_neg c1]
    by_cases c2 : q_X12_doesSend Z (r : Int) dg (Z 177 k) (Z 177 (((k : Int) + dg - 1) % dg).toNat) (Z 177 (((k : Int) + 1) % dg).toNat) = true
    · rw [if_pos c2, if_pos c2]; simp
    · rw [if_neg c2, if_neg c2]; simp
theorem nt_sm {r : Nat} (h : ruR X T (Z 160) r) (hd : 1 ≤ dg) (hrow : ∀ k : Nat, (k : Int) < dg → X a2 k = Z 177 k) : ∀ n : Nat, (n : Int) ≤ dg → ntC X (T + 2) a2 (r : Int) dg n = smI (sgA Z dg r) n
  | 0, _ => rfl
  | n + 1, hn => by
    have ih := nt_sm h hd hrow n (by omega)
    have ex : ntX (X a2) dg n = Z 177 (((n : Int) + dg - 1) % dg).toNat := by
      unfold ntX
      by_cases c : (n : Int) ≤ 0
      · rw [if_pos c, show ((n : Int) + dg - 1) % dg = dg - 1 by rw [show (n : Int) + dg - 1 = dg - 1 by omega]; exact Int.emod_eq_of_lt (by omega) (by omega), hrow _ (by omega)]
      · rw [if_neg c, show ((n : Int) + dg - 1) % dg = (n : Int) - 1 by rw [show (n : Int) + dg - 1 = (n : Int) - 1 + dg by omega, Int.add_emod_right]; exact Int.emod_eq_of_lt (by omega) (by omega), hrow _ (by omega)]
    have ey : ntY (X a2) dg n = Z 177 (((n : Int) + 1) % dg).toNat := by
      unfold ntY
      by_cases c : dg ≤ (n : Int) + 1
      · rw [if_pos c, show ((n : Int) + 1) % dg = 0 by rw [show (n : Int) + 1 = dg by omega, Int.emod_self], hrow _ (by omega)]
      · rw [if_neg c, show ((n : Int) + 1) % dg = (n : Int) + 1 by exact Int.emod_eq_of_lt (by omega) (by omega), hrow _ (by omega)]
    have er : X a2 (n : Int).toNat = Z 177 n := by rw [Int.toNat_natCast, hrow n (by omega)]
    show (if ¬(q_X7_applies X (T + 2) r dg (X a2 (n : Int).toNat) (ntX (X a2) dg n) (ntY (X a2) dg n) = true) then ((if ¬(q_X7_applies X (T + 2) r (X a2 (n : Int).toNat) dg (ntX (X a2) dg n) (ntY (X a2) dg n) = true) then (ntC X (T + 2) a2 r dg n : Int) else ntC X (T + 2) a2 r dg n + 1) : Int) else (if ¬(q_X7_applies X (T + 2) r (X a2 (n : Int).toNat) dg (ntX (X a2) dg n) (ntY (X a2) dg n) = true) then (ntC X (T + 2) a2 r dg n : Int) else ntC X (T + 2) a2 r dg n + 1) - 1) = smI (sgA Z dg r) n + sgA Z dg r n
    rw [ih, ex, ey, er, ap_eq h, ap_eq h]
    unfold sgA
    by_cases c1 : q_X12_doesSend Z (r : Int) (Z 177 n) dg (Z 177 (((n : Int) + dg - 1) % dg).toNat) (Z 177 (((n : Int) + 1) % dg).toNat) = true
    · by_cases c2 : q_X12_doesSend Z (r : Int) dg (Z 177 n) (Z 177 (((n : Int) + dg - 1) % dg).toNat) (Z 177 (((n : Int) + 1) % dg).toNat) = true
      · rw [if_neg (fun w => w c2), if_neg (fun w => w c1), if_pos c1, if_pos c2]; omega
      · rw [if_pos c2, if_neg (fun w => w c1), if_pos c1, if_neg c2]; omega
    · by_cases c2 : q_X12_doesSend Z (r : Int) dg (Z 177 n) (Z 177 (((n : Int) + dg - 1) % dg).toNat) (Z 177 (((n : Int) + 1) % dg).toNat) = true
      · rw [if_neg (fun w => w c2), if_pos c1, if_neg c1, if_pos c2]; omega
      · rw [if_pos c2, if_pos c1, if_neg c1, if_neg c2]; omega
theorem sm_swap (am : Nat → Int) (s : Nat → Nat → Int) (R : Nat) : ∀ n, smI (fun r => am r * smI (s r) n) R = smI (fun k => smI (fun r => am r * s r k) R) n
  | 0 => by
    have : ∀ R, smI (fun r => am r * smI (s r) 0) R = 0 := by
      intro R
      induction R with
      | zero => rfl
      | succ R ih => show smI _ R + am R * 0 = 0; rw [ih, Int.mul_zero]; rfl
    exact this R
  | n + 1 => by
    show _ = smI (fun k => smI (fun r => am r * s r k) R) n + smI (fun r => am r * s r n) R
    rw [← sm_swap am s R n, ← smI_add]
    exact smI_cg (fun r _ => by show am r * (smI (s r) n + s r n) = _; rw [Int.mul_add])
/-- charges are alike -/
theorem bh_eq (h : rlR X Z T R b) (hc : Z 156 14 = (R : Int)) (hd : 1 ≤ dg) (hrow : ∀ k : Nat, (k : Int) < dg → X a2 k = Z 177 k) : bhC X (T + 2) a2 129 dg R = chB Z b dg dg.toNat := by
  have e1 : ∀ n, n ≤ R → bhC X (T + 2) a2 129 dg n = 10 * (6 - dg) + smI (fun r => Z 178 (b + 12 + (r : Int)).toNat * smI (sgA Z dg r) dg.toNat) n := by
    intro n
    induction n with
    | zero => intro _; show 10 * (6 - dg) = 10 * (6 - dg) + 0; omega
    | succ n ih =>
      intro hn
      show bhC X (T + 2) a2 129 dg n + ((X 129 (n : Int).toNat) * (ntC X (T + 2) a2 n dg dg.toNat)) = 10 * (6 - dg) + (smI _ n + Z 178 (b + 12 + (n : Int)).toNat * smI (sgA Z dg n) dg.toNat)
      rw [ih (by omega), Int.toNat_natCast, h.2 n (by omega), nt_sm (h.1 n (by omega)) hd hrow dg.toNat (by omega)]
      omega
  have e2 : ∀ n, chB Z b dg n = 10 * (6 - dg) + smI (chD Z b dg) n := by
    intro n
    induction n with
    | zero => show 10 * (6 - dg) = 10 * (6 - dg) + 0; omega
    | succ n ih =>
      show chB Z b dg n + chD Z b dg n = 10 * (6 - dg) + (smI (chD Z b dg) n + chD Z b dg n)
      rw [ih]; omega
  rw [e1 R (Nat.le_refl _), e2, sm_swap]
  congr 1
  exact smI_cg (fun k _ => (chD_sm hc k).symm)
end
end
