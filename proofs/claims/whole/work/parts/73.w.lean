noncomputable section
abbrev L_X12_solves_24 (d : Nat) (a0 : Nat) (x1 : Int) (x2 : Int) (x3 : Int) (I : Nat → Nat → Int) (S : PS) (v : Int) (h1 : PM) : Prop := Ev (d + 3) mX12_solves (24, [some (vR (some (22, 0, a0))), some (vI x1), some (vI x2), some (vI x3), none], [], (I, S)) (.inl (some (vI v)), h1)
theorem w_X12_solves_0 {d : Nat} {I : Nat → Nat → Int} {S : PS} {b1 : Prop} [Decidable b1] {v : Int} {h1 : PM} (hl0 : LyX12 S)
    (k1 : ((loI I) 156 44 ≠ 0) → L_X12_solves_24 d 156 (if b1 then (1 : Int) else 0) 0 0 (up2 (loI I) 181 0 (-1)) S v h1)
    (r1 : ((loI I) 156 44 = 0) → 1 = v)
    (e1 : ((loI I) 156 44 = 0) → ((loI I), S) = h1 := by intros; rfl)
    (v1 : 0 ≤ (I 156 15) ∧ (I 156 15) ≤ 12 := by intros; first | assumption | omega | (split <;> omega)) : Ca (d + 3) mX12_solves [vR (some (22, 0, 156)), vI (if b1 then (1 : Int) else 0)] (I, S) (.inl (some (vI v))) h1 :=
  Ca.of rfl rfl (
  b_X12_solves_0  (c_X12_laysOpen hl0 v1) (
  b_X12_solves_4  (fun (c1 : (loI I) 156 44 ≠ 0) => 
    b_X12_solves_13 (ly_X12_43 hl0) (by decide) ((k1 c1))) (fun (c2 : (loI I) 156 44 = 0) => ev_ret2 (r1 c2) (e1 c2) (b_X12_solves_11 ))))
theorem w_X12_solves_24 {d : Nat} {I : Nat → Nat → Int} {S : PS} {b1 : Prop} {x2 x3 : Int} [Decidable b1] {v : Int} {h1 : PM} (hl0 : LyX12 S)
    (k1 : (0 ≤ x3) → ((up2 (up2 I 178 ((18 + (I 180 x3.toNat)).toNat) (-1)) 181 (x3.toNat) (I 181 x3.toNat + 1)) 181 x3.toNat ≤ 3) → (((0 ≤ ((up2 (up2 I 178 ((18 + (I 180 x3.toNat)).toNat) (-1)) 181 (x3.toNat) (I 181 x3.toNat + 1)) 181 x3.toNat)) ∧ (((up2 (up2 I 178 ((18 + (I 180 x3.toNat)).toNat) (-1)) 181 (x3.toNat) (I 181 x3.toNat + 1)) 181 x3.toNat) ≤ 3)) ∧ (p_and (p_shr (frF (up2 (up2 I 178 ((18 + (I 180 x3.toNat)).toNat) (-1)) 181 (x3.toNat) (I 181 x3.toNat + 1)) 18 (I 180 x3.toNat) (I 161 (10 * (I 180 x3.toNat)).toNat).toNat) ((up2 (up2 I 178 ((18 + (I 180 x3.toNat)).toNat) (-1)) 181 (x3.toNat) (I 181 x3.toNat + 1)) 181 x3.toNat)) 1 = 1)) → (x3 + 1 ≠ I 156 44) → L_X12_solves_24 d 156 (if b1 then (1 : Int) else 0) x2 (x3 + 1) (up2 (up2 (up2 (up2 I 178 ((18 + (I 180 x3.toNat)).toNat) (-1)) 181 (x3.toNat) (I 181 x3.toNat + 1)) 178 ((18 + (I 180 x3.toNat)).toNat) ((up2 (up2 I 178 ((18 + (I 180 x3.toNat)).toNat) (-1)) 181 (x3.toNat) (I 181 x3.toNat + 1)) 181 x3.toNat)) 181 ((x3 + 1).toNat) (-1)) S v h1)
    (k2 : (0 ≤ x3) → ((up2 (up2 I 178 ((18 + (I 180 x3.toNat)).toNat) (-1)) 181 (x3.toNat) (I 181 x3.toNat + 1)) 181 x3.toNat ≤ 3) → (((0 ≤ ((up2 (up2 I 178 ((18 + (I 180 x3.toNat)).toNat) (-1)) 181 (x3.toNat) (I 181 x3.toNat + 1)) 181 x3.toNat)) ∧ (((up2 (up2 I 178 ((18 + (I 180 x3.toNat)).toNat) (-1)) 181 (x3.toNat) (I 181 x3.toNat + 1)) 181 x3.toNat) ≤ 3)) ∧ (p_and (p_shr (frF (up2 (up2 I 178 ((18 + (I 180 x3.toNat)).toNat) (-1)) 181 (x3.toNat) (I 181 x3.toNat + 1)) 18 (I 180 x3.toNat) (I 161 (10 * (I 180 x3.toNat)).toNat).toNat) ((up2 (up2 I 178 ((18 + (I 180 x3.toNat)).toNat) (-1)) 181 (x3.toNat) (I 181 x3.toNat + 1)) 181 x3.toNat)) 1 = 1)) → (x3 + 1 = I 156 44) → (¬(b1)) → L_X12_solves_24 d 156 (if b1 then (1 : Int) else 0) (x2 + 1) x3 (up2 (up2 (up2 I 178 ((18 + (I 180 x3.toNat)).toNat) (-1)) 181 (x3.toNat) (I 181 x3.toNat + 1)) 178 ((18 + (I 180 x3.toNat)).toNat) ((up2 (up2 I 178 ((18 + (I 180 x3.toNat)).toNat) (-1)) 181 (x3.toNat) (I 181 x3.toNat + 1)) 181 x3.toNat)) S v h1)
    (k3 : (0 ≤ x3) → ((up2 (up2 I 178 ((18 + (I 180 x3.toNat)).toNat) (-1)) 181 (x3.toNat) (I 181 x3.toNat + 1)) 181 x3.toNat ≤ 3) → (¬(((0 ≤ ((up2 (up2 I 178 ((18 + (I 180 x3.toNat)).toNat) (-1)) 181 (x3.toNat) (I 181 x3.toNat + 1)) 181 x3.toNat)) ∧ (((up2 (up2 I 178 ((18 + (I 180 x3.toNat)).toNat) (-1)) 181 (x3.toNat) (I 181 x3.toNat + 1)) 181 x3.toNat) ≤ 3)) ∧ (p_and (p_shr (frF (up2 (up2 I 178 ((18 + (I 180 x3.toNat)).toNat) (-1)) 181 (x3.toNat) (I 181 x3.toNat + 1)) 18 (I 180 x3.toNat) (I 161 (10 * (I 180 x3.toNat)).toNat).toNat) ((up2 (up2 I 178 ((18 + (I 180 x3.toNat)).toNat) (-1)) 181 (x3.toNat) (I 181 x3.toNat + 1)) 181 x3.toNat)) 1 = 1))) → L_X12_solves_24 d 156 (if b1 then (1 : Int) else 0) x2 x3 (up2 (up2 I 178 ((18 + (I 180 x3.toNat)).toNat) (-1)) 181 (x3.toNat) (I 181 x3.toNat + 1)) S v h1)
    (k4 : (0 ≤ x3) → (3 < (up2 (up2 I 178 ((18 + (I 180 x3.toNat)).toNat) (-1)) 181 (x3.toNat) (I 181 x3.toNat + 1)) 181 x3.toNat) → L_X12_solves_24 d 156 (if b1 then (1 : Int) else 0) x2 (x3 - 1) (up2 (up2 I 178 ((18 + (I 180 x3.toNat)).toNat) (-1)) 181 (x3.toNat) (I 181 x3.toNat + 1)) S v h1)
    (r1 : (x3 < 0) → x2 = v)
    (e1 : (x3 < 0) → (I, S) = h1 := by intros; rfl)
    (r2 : (0 ≤ x3) → ((up2 (up2 I 178 ((18 + (I 180 x3.toNat)).toNat) (-1)) 181 (x3.toNat) (I 181 x3.toNat + 1)) 181 x3.toNat ≤ 3) → (((0 ≤ ((up2 (up2 I 178 ((18 + (I 180 x3.toNat)).toNat) (-1)) 181 (x3.toNat) (I 181 x3.toNat + 1)) 181 x3.toNat)) ∧ (((up2 (up2 I 178 ((18 + (I 180 x3.toNat)).toNat) (-1)) 181 (x3.toNat) (I 181 x3.toNat + 1)) 181 x3.toNat) ≤ 3)) ∧ (p_and (p_shr (frF (up2 (up2 I 178 ((18 + (I 180 x3.toNat)).toNat) (-1)) 181 (x3.toNat) (I 181 x3.toNat + 1)) 18 (I 180 x3.toNat) (I 161 (10 * (I 180 x3.toNat)).toNat).toNat) ((up2 (up2 I 178 ((18 + (I 180 x3.toNat)).toNat) (-1)) 181 (x3.toNat) (I 181 x3.toNat + 1)) 181 x3.toNat)) 1 = 1)) → (x3 + 1 = I 156 44) → (b1) → x2 + 1 = v)
    (e2 : (0 ≤ x3) → ((up2 (up2 I 178 ((18 + (I 180 x3.toNat)).toNat) (-1)) 181 (x3.toNat) (I 181 x3.toNat + 1)) 181 x3.toNat ≤ 3) → (((0 ≤ ((up2 (up2 I 178 ((18 + (I 180 x3.toNat)).toNat) (-1)) 181 (x3.toNat) (I 181 x3.toNat + 1)) 181 x3.toNat)) ∧ (((up2 (up2 I 178 ((18 + (I 180 x3.toNat)).toNat) (-1)) 181 (x3.toNat) (I 181 x3.toNat + 1)) 181 x3.toNat) ≤ 3)) ∧ (p_and (p_shr (frF (up2 (up2 I 178 ((18 + (I 180 x3.toNat)).toNat) (-1)) 181 (x3.toNat) (I 181 x3.toNat + 1)) 18 (I 180 x3.toNat) (I 161 (10 * (I 180 x3.toNat)).toNat).toNat) ((up2 (up2 I 178 ((18 + (I 180 x3.toNat)).toNat) (-1)) 181 (x3.toNat) (I 181 x3.toNat + 1)) 181 x3.toNat)) 1 = 1)) → (x3 + 1 = I 156 44) → (b1) → ((up2 (up2 (up2 I 178 ((18 + (I 180 x3.toNat)).toNat) (-1)) 181 (x3.toNat) (I 181 x3.toNat + 1)) 178 ((18 + (I 180 x3.toNat)).toNat) ((up2 (up2 I 178 ((18 + (I 180 x3.toNat)).toNat) (-1)) 181 (x3.toNat) (I 181 x3.toNat + 1)) 181 x3.toNat)), S) = h1 := by intros; rfl)
    (v1 : (0 ≤ x3) → 0 ≤ x3 ∧ x3 < (12 : Nat) := by intros; first | assumption | omega | (split <;> omega))
    (v2 : (0 ≤ x3) → -2147483648 ≤ 18 + (I 180 x3.toNat) ∧ 18 + (I 180 x3.toNat) ≤ 2147483647 := by intros; first | assumption | omega | (split <;> omega))
    (v3 : (0 ≤ x3) → 0 ≤ 18 + (I 180 x3.toNat) ∧ 18 + (I 180 x3.toNat) < (36 : Nat) := by intros; first | assumption | omega | (split <;> omega))
    (v4 : (0 ≤ x3) → -2147483648 ≤ I 181 x3.toNat + 1 ∧ I 181 x3.toNat + 1 ≤ 2147483647 := by intros; first | assumption | omega | (split <;> omega))
    (v5 : (0 ≤ x3) → ((up2 (up2 I 178 ((18 + (I 180 x3.toNat)).toNat) (-1)) 181 (x3.toNat) (I 181 x3.toNat + 1)) 181 x3.toNat ≤ 3) → ((0 ≤ ((up2 (up2 I 178 ((18 + (I 180 x3.toNat)).toNat) (-1)) 181 (x3.toNat) (I 181 x3.toNat + 1)) 181 x3.toNat)) ∧ (((up2 (up2 I 178 ((18 + (I 180 x3.toNat)).toNat) (-1)) 181 (x3.toNat) (I 181 x3.toNat + 1)) 181 x3.toNat) ≤ 3)) → (18 : Int) = 0 ∨ (18 : Int) = 18 := by intros; first | assumption | omega | (split <;> omega))
    (v6 : (0 ≤ x3) → ((up2 (up2 I 178 ((18 + (I 180 x3.toNat)).toNat) (-1)) 181 (x3.toNat) (I 181 x3.toNat + 1)) 181 x3.toNat ≤ 3) → ((0 ≤ ((up2 (up2 I 178 ((18 + (I 180 x3.toNat)).toNat) (-1)) 181 (x3.toNat) (I 181 x3.toNat + 1)) 181 x3.toNat)) ∧ (((up2 (up2 I 178 ((18 + (I 180 x3.toNat)).toNat) (-1)) 181 (x3.toNat) (I 181 x3.toNat + 1)) 181 x3.toNat) ≤ 3)) → 0 ≤ (I 180 x3.toNat) ∧ (I 180 x3.toNat) < 12 := by intros; first | assumption | omega | (split <;> omega))
    (v7 : (0 ≤ x3) → ((up2 (up2 I 178 ((18 + (I 180 x3.toNat)).toNat) (-1)) 181 (x3.toNat) (I 181 x3.toNat + 1)) 181 x3.toNat ≤ 3) → ((0 ≤ ((up2 (up2 I 178 ((18 + (I 180 x3.toNat)).toNat) (-1)) 181 (x3.toNat) (I 181 x3.toNat + 1)) 181 x3.toNat)) ∧ (((up2 (up2 I 178 ((18 + (I 180 x3.toNat)).toNat) (-1)) 181 (x3.toNat) (I 181 x3.toNat + 1)) 181 x3.toNat) ≤ 3)) → 0 ≤ I 161 (10 * (I 180 x3.toNat)).toNat ∧ I 161 (10 * (I 180 x3.toNat)).toNat ≤ 9 := by intros; first | assumption | omega | (split <;> omega))
    (v8 : (0 ≤ x3) → ((up2 (up2 I 178 ((18 + (I 180 x3.toNat)).toNat) (-1)) 181 (x3.toNat) (I 181 x3.toNat + 1)) 181 x3.toNat ≤ 3) → ((0 ≤ ((up2 (up2 I 178 ((18 + (I 180 x3.toNat)).toNat) (-1)) 181 (x3.toNat) (I 181 x3.toNat + 1)) 181 x3.toNat)) ∧ (((up2 (up2 I 178 ((18 + (I 180 x3.toNat)).toNat) (-1)) 181 (x3.toNat) (I 181 x3.toNat + 1)) 181 x3.toNat) ≤ 3)) → ∀ k : Nat, (k : Int) < I 161 (10 * (I 180 x3.toNat)).toNat → 0 ≤ I 161 (((10 * (I 180 x3.toNat)) + 1) + (k : Int)).toNat ∧ I 161 (((10 * (I 180 x3.toNat)) + 1) + (k : Int)).toNat < 12 := by intros; first | assumption | omega | (split <;> omega))
    (v9 : (0 ≤ x3) → ((up2 (up2 I 178 ((18 + (I 180 x3.toNat)).toNat) (-1)) 181 (x3.toNat) (I 181 x3.toNat + 1)) 181 x3.toNat ≤ 3) → (((0 ≤ ((up2 (up2 I 178 ((18 + (I 180 x3.toNat)).toNat) (-1)) 181 (x3.toNat) (I 181 x3.toNat + 1)) 181 x3.toNat)) ∧ (((up2 (up2 I 178 ((18 + (I 180 x3.toNat)).toNat) (-1)) 181 (x3.toNat) (I 181 x3.toNat + 1)) 181 x3.toNat) ≤ 3)) ∧ (p_and (p_shr (frF (up2 (up2 I 178 ((18 + (I 180 x3.toNat)).toNat) (-1)) 181 (x3.toNat) (I 181 x3.toNat + 1)) 18 (I 180 x3.toNat) (I 161 (10 * (I 180 x3.toNat)).toNat).toNat) ((up2 (up2 I 178 ((18 + (I 180 x3.toNat)).toNat) (-1)) 181 (x3.toNat) (I 181 x3.toNat + 1)) 181 x3.toNat)) 1 = 1)) → -2147483648 ≤ x3 + 1 ∧ x3 + 1 ≤ 2147483647 := by intros; first | assumption | omega | (split <;> omega))
    (v10 : (0 ≤ x3) → ((up2 (up2 I 178 ((18 + (I 180 x3.toNat)).toNat) (-1)) 181 (x3.toNat) (I 181 x3.toNat + 1)) 181 x3.toNat ≤ 3) → (((0 ≤ ((up2 (up2 I 178 ((18 + (I 180 x3.toNat)).toNat) (-1)) 181 (x3.toNat) (I 181 x3.toNat + 1)) 181 x3.toNat)) ∧ (((up2 (up2 I 178 ((18 + (I 180 x3.toNat)).toNat) (-1)) 181 (x3.toNat) (I 181 x3.toNat + 1)) 181 x3.toNat) ≤ 3)) ∧ (p_and (p_shr (frF (up2 (up2 I 178 ((18 + (I 180 x3.toNat)).toNat) (-1)) 181 (x3.toNat) (I 181 x3.toNat + 1)) 18 (I 180 x3.toNat) (I 161 (10 * (I 180 x3.toNat)).toNat).toNat) ((up2 (up2 I 178 ((18 + (I 180 x3.toNat)).toNat) (-1)) 181 (x3.toNat) (I 181 x3.toNat + 1)) 181 x3.toNat)) 1 = 1)) → (x3 + 1 ≠ I 156 44) → 0 ≤ x3 + 1 ∧ x3 + 1 < (12 : Nat) := by intros; first | assumption | omega | (split <;> omega))
    (v11 : (0 ≤ x3) → ((up2 (up2 I 178 ((18 + (I 180 x3.toNat)).toNat) (-1)) 181 (x3.toNat) (I 181 x3.toNat + 1)) 181 x3.toNat ≤ 3) → (((0 ≤ ((up2 (up2 I 178 ((18 + (I 180 x3.toNat)).toNat) (-1)) 181 (x3.toNat) (I 181 x3.toNat + 1)) 181 x3.toNat)) ∧ (((up2 (up2 I 178 ((18 + (I 180 x3.toNat)).toNat) (-1)) 181 (x3.toNat) (I 181 x3.toNat + 1)) 181 x3.toNat) ≤ 3)) ∧ (p_and (p_shr (frF (up2 (up2 I 178 ((18 + (I 180 x3.toNat)).toNat) (-1)) 181 (x3.toNat) (I 181 x3.toNat + 1)) 18 (I 180 x3.toNat) (I 161 (10 * (I 180 x3.toNat)).toNat).toNat) ((up2 (up2 I 178 ((18 + (I 180 x3.toNat)).toNat) (-1)) 181 (x3.toNat) (I 181 x3.toNat + 1)) 181 x3.toNat)) 1 = 1)) → (x3 + 1 = I 156 44) → -2147483648 ≤ x2 + 1 ∧ x2 + 1 ≤ 2147483647 := by intros; first | assumption | omega | (split <;> omega))
    (v12 : (0 ≤ x3) → (3 < (up2 (up2 I 178 ((18 + (I 180 x3.toNat)).toNat) (-1)) 181 (x3.toNat) (I 181 x3.toNat + 1)) 181 x3.toNat) → -2147483648 ≤ x3 - 1 ∧ x3 - 1 ≤ 2147483647 := by intros; first | assumption | omega | (split <;> omega)) : L_X12_solves_24 d 156 (if b1 then (1 : Int) else 0) x2 x3 I S v h1 :=
  
  b_X12_solves_24  (fun (c1 : x3 < 0) => ev_ret2 (r1 c1) (e1 c1) (b_X12_solves_141 )) (fun (c2 : 0 ≤ x3) => 
    b_X12_solves_28 (ly_X12_42 hl0) (v1 c2) (ly_X12_39 hl0) (v2 c2) (v3 c2) (ly_X12_43 hl0) (v1 c2) (v4 c2) (v1 c2) (v1 c2) (fun (c3 : (up2 (up2 I 178 ((18 + (I 180 x3.toNat)).toNat) (-1)) 181 (x3.toNat) (I 181 x3.toNat + 1)) 181 x3.toNat ≤ 3) => 
      b_X12_solves_73 (ly_X12_43 hl0) (v1 c2) (c_X12_isFree hl0 (v5 c2 c3) (v6 c2 c3) (v7 c2 c3) (v8 c2 c3)) (
      b_X12_solves_87  (fun c5' => have c5 : ((0 ≤ ((up2 (up2 I 178 ((18 + (I 180 x3.toNat)).toNat) (-1)) 181 (x3.toNat) (I 181 x3.toNat + 1)) 181 x3.toNat)) ∧ (((up2 (up2 I 178 ((18 + (I 180 x3.toNat)).toNat) (-1)) 181 (x3.toNat) (I 181 x3.toNat + 1)) 181 x3.toNat) ≤ 3)) ∧ (p_and (p_shr (frF (up2 (up2 I 178 ((18 + (I 180 x3.toNat)).toNat) (-1)) 181 (x3.toNat) (I 181 x3.toNat + 1)) 18 (I 180 x3.toNat) (I 161 (10 * (I 180 x3.toNat)).toNat).toNat) ((up2 (up2 I 178 ((18 + (I 180 x3.toNat)).toNat) (-1)) 181 (x3.toNat) (I 181 x3.toNat + 1)) 181 x3.toNat)) 1 = 1) := b2t c5'; 
        b_X12_solves_93 (ly_X12_39 hl0) (v2 c2) (ly_X12_43 hl0) (v1 c2) (v3 c2) (v9 c2 c3 c5) (fun (c7 : x3 + 1 ≠ I 156 44) => 
          b_X12_solves_128 (v9 c2 c3 c5) (ly_X12_43 hl0) (v10 c2 c3 c5 c7) ((k1 c2 c3 c5 c7))) (fun (c8 : x3 + 1 = I 156 44) => 
          b_X12_solves_119 (v11 c2 c3 c5 c8) (fun c9' => have c9 : ¬(b1) := b2f c9'; (k2 c2 c3 c5 c8 c9)) (fun c10' => have c10 : b1 := b2t c10'; ev_ret2 (r2 c2 c3 c5 c8 c10) (e2 c2 c3 c5 c8 c10) (b_X12_solves_126 )))) (fun c6' => have c6 : ¬(((0 ≤ ((up2 (up2 I 178 ((18 + (I 180 x3.toNat)).toNat) (-1)) 181 (x3.toNat) (I 181 x3.toNat + 1)) 181 x3.toNat)) ∧ (((up2 (up2 I 178 ((18 + (I 180 x3.toNat)).toNat) (-1)) 181 (x3.toNat) (I 181 x3.toNat + 1)) 181 x3.toNat) ≤ 3)) ∧ (p_and (p_shr (frF (up2 (up2 I 178 ((18 + (I 180 x3.toNat)).toNat) (-1)) 181 (x3.toNat) (I 181 x3.toNat + 1)) 18 (I 180 x3.toNat) (I 161 (10 * (I 180 x3.toNat)).toNat).toNat) ((up2 (up2 I 178 ((18 + (I 180 x3.toNat)).toNat) (-1)) 181 (x3.toNat) (I 181 x3.toNat + 1)) 181 x3.toNat)) 1 = 1)) := b2f c6'; 
        b_X12_solves_90  ((k3 c2 c3 c6))))) (fun (c4 : 3 < (up2 (up2 I 178 ((18 + (I 180 x3.toNat)).toNat) (-1)) 181 (x3.toNat) (I 181 x3.toNat + 1)) 181 x3.toNat) => 
      b_X12_solves_67 (v12 c2 c4) ((k4 c2 c4))))
abbrev L_X12_doesExtend_17 (d : Nat) (a0 : Nat) (x1 : Int) (x2 : Int) (x3 : Int) (x4 : Int) (x5 : Int) (x6 : Int) (I : Nat → Nat → Int) (S : PS) (v : Int) (h1 : PM) : Prop := Ev (d + 2) mX12_doesExtend (17, [some (vR (some (22, 0, a0))), some (vI x1), some (vI x2), some (vI x3), some (vI x4), some (vI x5), some (vI x6)], [], (I, S)) (.inl (some (vI v)), h1)
abbrev L_X12_doesExtend_57 (d : Nat) (a0 : Nat) (x1 : Int) (x2 : Int) (x3 : Int) (x4 : Int) (x5 : Int) (x6 : Int) (I : Nat → Nat → Int) (S : PS) (v : Int) (h1 : PM) : Prop := Ev (d + 2) mX12_doesExtend (57, [some (vR (some (22, 0, a0))), some (vI x1), some (vI x2), some (vI x3), some (vI x4), some (vI x5), some (vI x6)], [], (I, S)) (.inl (some (vI v)), h1)
theorem w_X12_doesExtend_0 {d : Nat} {I : Nat → Nat → Int} {S : PS} {x1 x2 : Int} {b3 : Prop} [Decidable b3] {v : Int} {h1 : PM} (hl0 : LyX12 S)
    (k1 : L_X12_doesExtend_17 d 156 x1 x2 (if b3 then (1 : Int) else 0) (I 159 ((20 * x1) + 9).toNat) (((I 159 ((20 * x1) + 9).toNat) + 1) + (I 159 ((20 * x1) + 1).toNat)) 0 I S v h1)
    (v1 : 0 ≤ x1 ∧ x1 < 4 := by intros; first | assumption | omega | (split <;> omega))
    (v2 : 0 ≤ I 159 ((20 * x1) + 9).toNat ∧ I 159 ((20 * x1) + 9).toNat ≤ 7 := by intros; first | assumption | omega | (split <;> omega))
    (v3 : 0 ≤ I 159 ((20 * x1) + 1).toNat ∧ I 159 ((20 * x1) + 1).toNat ≤ 7 := by intros; first | assumption | omega | (split <;> omega)) : Ca (d + 2) mX12_doesExtend [vR (some (22, 0, 156)), vI x1, vI x2, vI (if b3 then (1 : Int) else 0)] (I, S) (.inl (some (vI v))) h1 :=
  Ca.of rfl rfl (
  b_X12_doesExtend_0  (c_X12_ring hl0 v1) (
  b_X12_doesExtend_5  (c_X12_vertices hl0 v1 v2 v3) (
  b_X12_doesExtend_12  (k1))))
theorem w_X12_doesExtend_17 {d : Nat} {I : Nat → Nat → Int} {S : PS} {x1 x2 x4 x5 x6 : Int} {b3 : Prop} [Decidable b3] {v : Int} {h1 : PM} (hl0 : LyX12 S)
    (k1 : (x4 ≤ x6) → L_X12_doesExtend_57 d 156 x1 x2 (if b3 then (1 : Int) else 0) x4 x5 x4 (up2 I 173 (x4.toNat) (-1)) S v h1)
    (k2 : (x6 < x4) → L_X12_doesExtend_17 d 156 x1 x2 (if b3 then (1 : Int) else 0) x4 x5 (x6 + 1) (up2 I 173 (x6.toNat) (p_and (p_shr x2 (2 * (((I 159 ((20 * x1) + 9).toNat) - 1) - x6))) 3)) S v h1)
    (v1 : (x4 ≤ x6) → 0 ≤ x4 ∧ x4 < (15 : Nat) := by intros; first | assumption | omega | (split <;> omega))
    (v2 : (x6 < x4) → 0 ≤ x1 ∧ x1 < 4 := by intros; first | assumption | omega | (split <;> omega))
    (v3 : (x6 < x4) → 0 ≤ I 159 ((20 * x1) + 9).toNat ∧ I 159 ((20 * x1) + 9).toNat ≤ 7 := by intros; first | assumption | omega | (split <;> omega))
    (v4 : (x6 < x4) → 0 ≤ x6 ∧ x6 ≤ 7 := by intros; first | assumption | omega | (split <;> omega))
    (v5 : (x6 < x4) → 0 ≤ x6 ∧ x6 < (15 : Nat) := by intros; first | assumption | omega | (split <;> omega))
    (v6 : (x6 < x4) → -2147483648 ≤ x6 + 1 ∧ x6 + 1 ≤ 2147483647 := by intros; first | assumption | omega | (split <;> omega)) : L_X12_doesExtend_17 d 156 x1 x2 (if b3 then (1 : Int) else 0) x4 x5 x6 I S v h1 :=
  
  b_X12_doesExtend_17  (fun (c1 : x4 ≤ x6) => 
    b_X12_doesExtend_45 (ly_X12_33 hl0) (v1 c1) ((k1 c1))) (fun (c2 : x6 < x4) => 
    b_X12_doesExtend_24 (ly_X12_33 hl0) (c_X12_colourAt hl0 (v2 c2) (v3 c2) (v4 c2)) (
    b_X12_doesExtend_38 (v5 c2) (v6 c2) ((k2 c2))))
theorem w_X12_doesExtend_57 {d : Nat} {I : Nat → Nat → Int} {S : PS} {x1 x2 x4 x5 x6 : Int} {b3 : Prop} [Decidable b3] {v : Int} {h1 : PM} (hl0 : LyX12 S)
    (k1 : (x4 ≤ x6) → (x6 < x5) → ((up2 I 173 (x6.toNat) (I 173 x6.toNat + 1)) 173 x6.toNat ≤ 3) → (allB (gwP (up2 I 173 (x6.toNat) (I 173 x6.toNat + 1)) x1 x6 (b3)) x6.toNat = true) → (x5 ≤ x6 + 1) → L_X12_doesExtend_57 d 156 x1 x2 (if b3 then (1 : Int) else 0) x4 x5 (x6 + 1) (up2 I 173 (x6.toNat) (I 173 x6.toNat + 1)) S v h1)
    (k2 : (x4 ≤ x6) → (x6 < x5) → ((up2 I 173 (x6.toNat) (I 173 x6.toNat + 1)) 173 x6.toNat ≤ 3) → (allB (gwP (up2 I 173 (x6.toNat) (I 173 x6.toNat + 1)) x1 x6 (b3)) x6.toNat = true) → (x6 + 1 < x5) → L_X12_doesExtend_57 d 156 x1 x2 (if b3 then (1 : Int) else 0) x4 x5 (x6 + 1) (up2 (up2 I 173 (x6.toNat) (I 173 x6.toNat + 1)) 173 ((x6 + 1).toNat) (-1)) S v h1)
    (k3 : (x4 ≤ x6) → (x6 < x5) → ((up2 I 173 (x6.toNat) (I 173 x6.toNat + 1)) 173 x6.toNat ≤ 3) → (¬(allB (gwP (up2 I 173 (x6.toNat) (I 173 x6.toNat + 1)) x1 x6 (b3)) x6.toNat = true)) → L_X12_doesExtend_57 d 156 x1 x2 (if b3 then (1 : Int) else 0) x4 x5 x6 (up2 I 173 (x6.toNat) (I 173 x6.toNat + 1)) S v h1)
    (k4 : (x4 ≤ x6) → (x6 < x5) → (3 < (up2 I 173 (x6.toNat) (I 173 x6.toNat + 1)) 173 x6.toNat) → L_X12_doesExtend_57 d 156 x1 x2 (if b3 then (1 : Int) else 0) x4 x5 (x6 - 1) (up2 I 173 (x6.toNat) (I 173 x6.toNat + 1)) S v h1)
    (r1 : (x6 < x4) → (if x6 = x5 then (1 : Int) else 0) = v)
    (e1 : (x6 < x4) → (I, S) = h1 := by intros; rfl)
    (r2 : (x4 ≤ x6) → (x5 ≤ x6) → (if x6 = x5 then (1 : Int) else 0) = v)
    (e2 : (x4 ≤ x6) → (x5 ≤ x6) → (I, S) = h1 := by intros; rfl)
    (v1 : (x4 ≤ x6) → (x6 < x5) → 0 ≤ x6 ∧ x6 < (15 : Nat) := by intros; first | assumption | omega | (split <;> omega))
    (v2 : (x4 ≤ x6) → (x6 < x5) → -2147483648 ≤ I 173 x6.toNat + 1 ∧ I 173 x6.toNat + 1 ≤ 2147483647 := by intros; first | assumption | omega | (split <;> omega))
    (v3 : (x4 ≤ x6) → (x6 < x5) → ((up2 I 173 (x6.toNat) (I 173 x6.toNat + 1)) 173 x6.toNat ≤ 3) → 0 ≤ x1 ∧ x1 < 4 := by intros; first | assumption | omega | (split <;> omega))
    (v4 : (x4 ≤ x6) → (x6 < x5) → ((up2 I 173 (x6.toNat) (I 173 x6.toNat + 1)) 173 x6.toNat ≤ 3) → 0 ≤ x6 ∧ x6 < 15 := by intros; first | assumption | omega | (split <;> omega))
    (v5 : (x4 ≤ x6) → (x6 < x5) → ((up2 I 173 (x6.toNat) (I 173 x6.toNat + 1)) 173 x6.toNat ≤ 3) → 0 ≤ I 159 ((20 * x1) + 10).toNat ∧ I 159 ((20 * x1) + 10).toNat ≤ 4 := by intros; first | assumption | omega | (split <;> omega))
    (v6 : (x4 ≤ x6) → (x6 < x5) → ((up2 I 173 (x6.toNat) (I 173 x6.toNat + 1)) 173 x6.toNat ≤ 3) → (allB (gwP (up2 I 173 (x6.toNat) (I 173 x6.toNat + 1)) x1 x6 (b3)) x6.toNat = true) → -2147483648 ≤ x6 + 1 ∧ x6 + 1 ≤ 2147483647 := by intros; first | assumption | omega | (split <;> omega))
    (v7 : (x4 ≤ x6) → (x6 < x5) → ((up2 I 173 (x6.toNat) (I 173 x6.toNat + 1)) 173 x6.toNat ≤ 3) → (allB (gwP (up2 I 173 (x6.toNat) (I 173 x6.toNat + 1)) x1 x6 (b3)) x6.toNat = true) → (x6 + 1 < x5) → 0 ≤ x6 + 1 ∧ x6 + 1 < (15 : Nat) := by intros; first | assumption | omega | (split <;> omega))
    (v8 : (x4 ≤ x6) → (x6 < x5) → (3 < (up2 I 173 (x6.toNat) (I 173 x6.toNat + 1)) 173 x6.toNat) → -2147483648 ≤ x6 - 1 ∧ x6 - 1 ≤ 2147483647 := by intros; first | assumption | omega | (split <;> omega)) : L_X12_doesExtend_57 d 156 x1 x2 (if b3 then (1 : Int) else 0) x4 x5 x6 I S v h1 :=
  
  b_X12_doesExtend_57  (fun (c1 : x6 < x4) => 
    have K4 : ∀ us0 : Int, us0 = (if x6 = x5 then (1 : Int) else 0) → Ev (d + 2) mX12_doesExtend (146, [some (vR (some (22, 0, 156))), some (vI x1), some (vI x2), some (vI (if b3 then (1 : Int) else 0)), some (vI x4), some (vI x5), some (vI x6)], [vI us0], (I, S)) (.inl (some (vI v)), h1) := fun us0 e_us0 => by subst e_us0; exact (ev_ret2 (r1 c1) (e1 c1) (b_X12_doesExtend_146 (ite01 _)))
    
    b_X12_doesExtend_134  (fun (c3 : x6 ≠ x5) => 
      b_X12_doesExtend_145  (K4 0 (if_neg c3).symm)) (fun (c4 : x6 = x5) => 
      b_X12_doesExtend_141  (K4 1 (if_pos c4).symm))) (fun (c2 : x4 ≤ x6) => 
    b_X12_doesExtend_64  (fun (c6 : x5 ≤ x6) => 
      have K9 : ∀ us0 : Int, us0 = (if x6 = x5 then (1 : Int) else 0) → Ev (d + 2) mX12_doesExtend (146, [some (vR (some (22, 0, 156))), some (vI x1), some (vI x2), some (vI (if b3 then (1 : Int) else 0)), some (vI x4), some (vI x5), some (vI x6)], [vI us0], (I, S)) (.inl (some (vI v)), h1) := fun us0 e_us0 => by subst e_us0; exact (ev_ret2 (r2 c2 c6) (e2 c2 c6) (b_X12_doesExtend_146 (ite01 _)))
      
      b_X12_doesExtend_134  (fun (c8 : x6 ≠ x5) => 
        b_X12_doesExtend_145  (K9 0 (if_neg c8).symm)) (fun (c9 : x6 = x5) => 
        b_X12_doesExtend_141  (K9 1 (if_pos c9).symm))) (fun (c7 : x6 < x5) => 
      b_X12_doesExtend_71 (ly_X12_33 hl0) (v1 c2 c7) (v2 c2 c7) (v1 c2 c7) (v1 c2 c7) (fun (c11 : (up2 I 173 (x6.toNat) (I 173 x6.toNat + 1)) 173 x6.toNat ≤ 3) => 
        b_X12_doesExtend_99  (c_X12_goesWith (b3 := b3) hl0 (v3 c2 c7 c11) (v4 c2 c7 c11) (v5 c2 c7 c11)) (
        b_X12_doesExtend_107  (fun c13' => have c13 : allB (gwP (up2 I 173 (x6.toNat) (I 173 x6.toNat + 1)) x1 x6 (b3)) x6.toNat = true := b2t c13'; 
          b_X12_doesExtend_113 (v6 c2 c7 c11 c13) (fun (c15 : x5 ≤ x6 + 1) => (k1 c2 c7 c11 c13 c15)) (fun (c16 : x6 + 1 < x5) => 
            b_X12_doesExtend_123 (ly_X12_33 hl0) (v7 c2 c7 c11 c13 c16) ((k2 c2 c7 c11 c13 c16)))) (fun c14' => have c14 : ¬(allB (gwP (up2 I 173 (x6.toNat) (I 173 x6.toNat + 1)) x1 x6 (b3)) x6.toNat = true) := b2f c14'; 
          b_X12_doesExtend_110  ((k3 c2 c7 c11 c14))))) (fun (c12 : 3 < (up2 I 173 (x6.toNat) (I 173 x6.toNat + 1)) 173 x6.toNat) => 
        b_X12_doesExtend_93 (v8 c2 c7 c12) ((k4 c2 c7 c12)))))
abbrev L_X12_isFence_7 (d : Nat) (a0 : Nat) (x1 : Int) (x2 : Int) (x3 : Int) (x4 : Int) (I : Nat → Nat → Int) (S : PS) (v : Int) (h1 : PM) : Prop := Ev (d + 2) mX12_isFence (7, [some (vR (some (22, 0, a0))), some (vI x1), some (vI x2), some (vI x3), some (vI x4), none], [], (I, S)) (.inl (some (vI v)), h1)
abbrev L_X12_isFence_73 (d : Nat) (a0 : Nat) (x1 : Int) (x2 : Int) (x3 : Int) (x4 : Int) (I : Nat → Nat → Int) (S : PS) (v : Int) (h1 : PM) : Prop := Ev (d + 2) mX12_isFence (73, [some (vR (some (22, 0, a0))), some (vI x1), some (vI x2), some (vI x3), some (vI x4), none], [], (I, S)) (.inl (some (vI v)), h1)
abbrev L_X12_isFence_107 (d : Nat) (a0 : Nat) (x1 : Int) (x2 : Int) (x3 : Int) (x4 : Int) (x5 : Int) (I : Nat → Nat → Int) (S : PS) (v : Int) (h1 : PM) : Prop := Ev (d + 2) mX12_isFence (107, [some (vR (some (22, 0, a0))), some (vI x1), some (vI x2), some (vI x3), some (vI x4), some (vI x5)], [], (I, S)) (.inl (some (vI v)), h1)
theorem w_X12_isFence_0 {d : Nat} {I : Nat → Nat → Int} {S : PS} {x1 : Int} {v : Int} {h1 : PM} (hl0 : LyX12 S)
    (k1 : L_X12_isFence_7 d 156 x1 x1 0 0 I S v h1) : Ca (d + 2) mX12_isFence [vR (some (22, 0, 156)), vI x1] (I, S) (.inl (some (vI v))) h1 :=
  Ca.of rfl rfl (
  b_X12_isFence_0  (k1))
theorem w_X12_isFence_7 {d : Nat} {I : Nat → Nat → Int} {S : PS} {x1 x2 x3 x4 : Int} {v : Int} {h1 : PM} (hl0 : LyX12 S)
    (k1 : ((I 156 37 + 1) / 2 ≤ x4) → (x2 ≤ 0) → L_X12_isFence_73 d 156 x1 x2 x3 0 I S v h1)
    (k2 : (x4 < (I 156 37 + 1) / 2) → (x2 % 4 ≤ x3) → L_X12_isFence_7 d 156 x1 (x2 / 4) (if x2 % 4 ≠ x3 then (x3 : Int) else x3 + 1) (x4 + 1) (up2 I 176 ((2 * x4).toNat) (x2 % 4)) S v h1)
    (r1 : ((I 156 37 + 1) / 2 ≤ x4) → (0 < x2) → 0 = v)
    (e1 : ((I 156 37 + 1) / 2 ≤ x4) → (0 < x2) → (I, S) = h1 := by intros; rfl)
    (r2 : (x4 < (I 156 37 + 1) / 2) → (x3 < x2 % 4) → 0 = v)
    (e2 : (x4 < (I 156 37 + 1) / 2) → (x3 < x2 % 4) → (I, S) = h1 := by intros; rfl)
    (v1 : 0 ≤ I 156 37 ∧ I 156 37 ≤ 7 := by intros; first | assumption | omega | (split <;> omega))
    (v2 : (x4 < (I 156 37 + 1) / 2) → (0 ≤ x2 ∧ x2 ≤ 2147483647) ∧ 0 < (4 : Int) ∧ (4 : Int) ≤ 2147483647 := by intros; first | assumption | omega | (split <;> omega))
    (v3 : (x4 < (I 156 37 + 1) / 2) → (x2 % 4 ≤ x3) → (x2 % 4 = x3) → -2147483648 ≤ x3 + 1 ∧ x3 + 1 ≤ 2147483647 := by intros; first | assumption | omega | (split <;> omega))
    (v4 : (x4 < (I 156 37 + 1) / 2) → (x2 % 4 ≤ x3) → -2147483648 ≤ 2 * x4 ∧ 2 * x4 ≤ 2147483647 := by intros; first | assumption | omega | (split <;> omega))
    (v5 : (x4 < (I 156 37 + 1) / 2) → (x2 % 4 ≤ x3) → 0 ≤ 2 * x4 ∧ 2 * x4 < (7 : Nat) := by intros; first | assumption | omega | (split <;> omega))
    (v6 : (x4 < (I 156 37 + 1) / 2) → (x2 % 4 ≤ x3) → -2147483648 ≤ x4 + 1 ∧ x4 + 1 ≤ 2147483647 := by intros; first | assumption | omega | (split <;> omega)) : L_X12_isFence_7 d 156 x1 x2 x3 x4 I S v h1 :=
  
  b_X12_isFence_7  (c_X12_firsts hl0 v1) (
  b_X12_isFence_13  (fun (c1 : (I 156 37 + 1) / 2 ≤ x4) => 
    b_X12_isFence_64  (fun (c3 : x2 ≤ 0) => 
      b_X12_isFence_70  ((k1 c1 c3))) (fun (c4 : 0 < x2) => ev_ret2 (r1 c1 c4) (e1 c1 c4) (b_X12_isFence_68 ))) (fun (c2 : x4 < (I 156 37 + 1) / 2) => 
    b_X12_isFence_16 (v2 c2) (v2 c2) (fun (c5 : x2 % 4 ≤ x3) => 
      have K8 : ∀ us0 : Int, us0 = (if x2 % 4 ≠ x3 then (x3 : Int) else x3 + 1) → Ev (d + 2) mX12_isFence (46, [some (vR (some (22, 0, 156))), some (vI x1), some (vI (x2 / 4)), some (vI x3), some (vI x4), some (vI (x2 % 4))], [vI us0], (I, S)) (.inl (some (vI v)), h1) := fun us0 e_us0 => by subst e_us0; exact (
        b_X12_isFence_46 (ly_X12_36 hl0) (v4 c2 c5) (v5 c2 c5) (v6 c2 c5) ((k2 c2 c5)))
      
      b_X12_isFence_33  (fun (c7 : x2 % 4 ≠ x3) => 
        b_X12_isFence_45  (K8 x3 ((if_pos c7).symm))) (fun (c8 : x2 % 4 = x3) => 
        b_X12_isFence_39 (v3 c2 c5 c8) (K8 (x3 + 1) ((if_neg (fun q => q c8)).symm)))) (fun (c6 : x3 < x2 % 4) => ev_ret2 (r2 c2 c6) (e2 c2 c6) (b_X12_isFence_31 ))))
theorem w_X12_isFence_73 {d : Nat} {I : Nat → Nat → Int} {S : PS} {x1 x2 x3 x4 : Int} {v : Int} {h1 : PM} (hl0 : LyX12 S)
    (k1 : ((2 * x4) + 1 < I 156 37) → L_X12_isFence_107 d 156 x1 x2 x3 x4 (x4 - 1) (up2 I 176 (((2 * x4) + 1).toNat) (4 + x4)) S v h1)
    (r1 : (I 156 37 ≤ (2 * x4) + 1) → 1 = v)
    (e1 : (I 156 37 ≤ (2 * x4) + 1) → (I, S) = h1 := by intros; rfl)
    (v1 : -2147483648 ≤ 2 * x4 ∧ 2 * x4 ≤ 2147483647 := by intros; first | assumption | omega | (split <;> omega))
    (v2 : -2147483648 ≤ (2 * x4) + 1 ∧ (2 * x4) + 1 ≤ 2147483647 := by intros; first | assumption | omega | (split <;> omega))
    (v3 : ((2 * x4) + 1 < I 156 37) → -2147483648 ≤ 4 + x4 ∧ 4 + x4 ≤ 2147483647 := by intros; first | assumption | omega | (split <;> omega))
    (v4 : ((2 * x4) + 1 < I 156 37) → 0 ≤ (2 * x4) + 1 ∧ (2 * x4) + 1 < (7 : Nat) := by intros; first | assumption | omega | (split <;> omega))
    (v5 : ((2 * x4) + 1 < I 156 37) → -2147483648 ≤ x4 - 1 ∧ x4 - 1 ≤ 2147483647 := by intros; first | assumption | omega | (split <;> omega)) : L_X12_isFence_73 d 156 x1 x2 x3 x4 I S v h1 :=
  
  b_X12_isFence_73 v1 v2 (fun (c1 : I 156 37 ≤ (2 * x4) + 1) => ev_ret2 (r1 c1) (e1 c1) (b_X12_isFence_157 )) (fun (c2 : (2 * x4) + 1 < I 156 37) => 
    b_X12_isFence_86 (ly_X12_36 hl0) v1 v2 (v3 c2) (v4 c2) (v5 c2) ((k1 c2)))
theorem w_X12_isFence_107 {d : Nat} {I : Nat → Nat → Int} {S : PS} {x1 x2 x3 x4 x5 : Int} {v : Int} {h1 : PM} (hl0 : LyX12 S)
    (k1 : (x5 < 0) → L_X12_isFence_73 d 156 x1 x2 x3 (x4 + 1) I S v h1)
    (k2 : (0 ≤ x5) → (apM (I 176) (I 156 37) x5 x4 = true) → L_X12_isFence_107 d 156 x1 x2 x3 x4 (x5 - 1) I S v h1)
    (k3 : (0 ≤ x5) → (¬(apM (I 176) (I 156 37) x5 x4 = true)) → L_X12_isFence_107 d 156 x1 x2 x3 x4 (x5 - 1) (up2 I 176 (((2 * x4) + 1).toNat) (I 176 ((2 * x5) + 1).toNat)) S v h1)
    (v1 : (x5 < 0) → -2147483648 ≤ x4 + 1 ∧ x4 + 1 ≤ 2147483647 := by intros; first | assumption | omega | (split <;> omega))
    (v2 : (0 ≤ x5) → 0 ≤ (I 156 37) ∧ (I 156 37) ≤ 7 := by intros; first | assumption | omega | (split <;> omega))
    (v3 : (0 ≤ x5) → 0 ≤ x5 ∧ x5 ≤ x4 ∧ x4 ≤ 3 := by intros; first | assumption | omega | (split <;> omega))
    (v4 : (0 ≤ x5) → (apM (I 176) (I 156 37) x5 x4 = true) → -2147483648 ≤ x5 - 1 ∧ x5 - 1 ≤ 2147483647 := by intros; first | assumption | omega | (split <;> omega))
    (v5 : (0 ≤ x5) → (¬(apM (I 176) (I 156 37) x5 x4 = true)) → -2147483648 ≤ 2 * x4 ∧ 2 * x4 ≤ 2147483647 := by intros; first | assumption | omega | (split <;> omega))
    (v6 : (0 ≤ x5) → (¬(apM (I 176) (I 156 37) x5 x4 = true)) → -2147483648 ≤ (2 * x4) + 1 ∧ (2 * x4) + 1 ≤ 2147483647 := by intros; first | assumption | omega | (split <;> omega))
    (v7 : (0 ≤ x5) → (¬(apM (I 176) (I 156 37) x5 x4 = true)) → -2147483648 ≤ 2 * x5 ∧ 2 * x5 ≤ 2147483647 := by intros; first | assumption | omega | (split <;> omega))
    (v8 : (0 ≤ x5) → (¬(apM (I 176) (I 156 37) x5 x4 = true)) → -2147483648 ≤ (2 * x5) + 1 ∧ (2 * x5) + 1 ≤ 2147483647 := by intros; first | assumption | omega | (split <;> omega))
    (v9 : (0 ≤ x5) → (¬(apM (I 176) (I 156 37) x5 x4 = true)) → 0 ≤ (2 * x5) + 1 ∧ (2 * x5) + 1 < (7 : Nat) := by intros; first | assumption | omega | (split <;> omega))
    (v10 : (0 ≤ x5) → (¬(apM (I 176) (I 156 37) x5 x4 = true)) → 0 ≤ (2 * x4) + 1 ∧ (2 * x4) + 1 < (7 : Nat) := by intros; first | assumption | omega | (split <;> omega))
    (v11 : (0 ≤ x5) → (¬(apM (I 176) (I 156 37) x5 x4 = true)) → -2147483648 ≤ x5 - 1 ∧ x5 - 1 ≤ 2147483647 := by intros; first | assumption | omega | (split <;> omega)) : L_X12_isFence_107 d 156 x1 x2 x3 x4 x5 I S v h1 :=
  
  b_X12_isFence_107  (fun (c1 : x5 < 0) => 
    b_X12_isFence_151 (v1 c1) ((k1 c1))) (fun (c2 : 0 ≤ x5) => 
    b_X12_isFence_112  (c_X12_areParted hl0 (v2 c2) (v3 c2)) (
    b_X12_isFence_120  (fun c3' => have c3 : apM (I 176) (I 156 37) x5 x4 = true := b2t c3'; 
      b_X12_isFence_145 (v4 c2 c3) ((k2 c2 c3))) (fun c4' => have c4 : ¬(apM (I 176) (I 156 37) x5 x4 = true) := b2f c4'; 
      b_X12_isFence_123 (ly_X12_36 hl0) (v5 c2 c4) (v6 c2 c4) (v7 c2 c4) (v8 c2 c4) (v9 c2 c4) (v10 c2 c4) (
      b_X12_isFence_145 (v11 c2 c4) ((k3 c2 c4))))))
abbrev L_X12_isLower_6 (d : Nat) (a0 : Nat) (x1 : Int) (x2 : Int) (x3 : Int) (x4 : Int) (x5 : Int) (x6 : Int) (I : Nat → Nat → Int) (S : PS) (v : Int) (h1 : PM) : Prop := Ev (d + 4) mX12_isLower (6, [some (vR (some (22, 0, a0))), some (vI x1), some (vI x2), some (vI x3), some (vI x4), some (vI x5), some (vI x6), none], [], (I, S)) (.inl (some (vI v)), h1)
abbrev L_X12_isLower_38 (d : Nat) (a0 : Nat) (x1 : Int) (x2 : Int) (x3 : Int) (x4 : Int) (x5 : Int) (x6 : Int) (I : Nat → Nat → Int) (S : PS) (v : Int) (h1 : PM) : Prop := Ev (d + 4) mX12_isLower (38, [some (vR (some (22, 0, a0))), some (vI x1), some (vI x2), some (vI x3), some (vI x4), some (vI x5), some (vI x6), none], [], (I, S)) (.inl (some (vI v)), h1)
theorem w_X12_isLower_0 {d : Nat} {I : Nat → Nat → Int} {S : PS} {x1 x2 x3 x4 : Int} {v : Int} {h1 : PM} (hl0 : LyX12 S)
    (k1 : L_X12_isLower_6 d 156 x1 x2 x3 x4 0 0 I S v h1) : Ca (d + 4) mX12_isLower [vR (some (22, 0, 156)), vI x1, vI x2, vI x3, vI x4] (I, S) (.inl (some (vI v))) h1 :=
  Ca.of rfl rfl (
  b_X12_isLower_0  (k1))
theorem w_X12_isLower_6 {d : Nat} {I : Nat → Nat → Int} {S : PS} {x1 x2 x3 x4 x5 x6 : Int} {v : Int} {h1 : PM} (hl0 : LyX12 S)
    (k1 : (I 156 37 ≤ x6) → L_X12_isLower_38 d 156 x1 x2 x3 x4 x5 0 I S v h1)
    (k2 : (x6 < I 156 37) → L_X12_isLower_6 d 156 x1 x2 x3 x4 (p_or x5 (p_shl 1 (I 176 x6.toNat))) (x6 + 1) I S v h1)
    (v1 : (x6 < I 156 37) → 0 ≤ x6 ∧ x6 < (7 : Nat) := by intros; first | assumption | omega | (split <;> omega))
    (v2 : (x6 < I 156 37) → -2147483648 ≤ x6 + 1 ∧ x6 + 1 ≤ 2147483647 := by intros; first | assumption | omega | (split <;> omega)) : L_X12_isLower_6 d 156 x1 x2 x3 x4 x5 x6 I S v h1 :=
  
  b_X12_isLower_6  (fun (c1 : I 156 37 ≤ x6) => 
    b_X12_isLower_35  ((k1 c1))) (fun (c2 : x6 < I 156 37) => 
    b_X12_isLower_15 (ly_X12_36 hl0) (v1 c2) (v2 c2) ((k2 c2)))
theorem w_X12_isLower_38 {d : Nat} {I : Nat → Nat → Int} {S : PS} {x1 x2 x3 x4 x5 x6 : Int} {v : Int} {h1 : PM} (hl0 : LyX12 S)
    (k1 : (x6 < 128) → (p_and x6 (p_xor x5 (-1)) = 0) → (I 171 ((96 * x1) + (I 172 ((nmS (I 159 ((20 * x1) + 9).toNat) (swS (I 159 ((20 * x1) + 9).toNat) x2 x3 (I 175) (rnO (I 176) x6 ((I 156 37)).toNat) (I 159 ((20 * x1) + 9).toNat).toNat) (I 159 ((20 * x1) + 9).toNat).toNat).1).toNat)).toNat = (-1)) → L_X12_isLower_38 d 156 x1 x2 x3 x4 x5 (x6 + 1) (nmI I (I 159 ((20 * x1) + 9).toNat) (swS (I 159 ((20 * x1) + 9).toNat) x2 x3 (I 175) (rnO (I 176) x6 ((I 156 37)).toNat) (I 159 ((20 * x1) + 9).toNat).toNat)) S v h1)
    (k2 : (x6 < 128) → (p_and x6 (p_xor x5 (-1)) = 0) → (I 171 ((96 * x1) + (I 172 ((nmS (I 159 ((20 * x1) + 9).toNat) (swS (I 159 ((20 * x1) + 9).toNat) x2 x3 (I 175) (rnO (I 176) x6 ((I 156 37)).toNat) (I 159 ((20 * x1) + 9).toNat).toNat) (I 159 ((20 * x1) + 9).toNat).toNat).1).toNat)).toNat ≠ (-1)) → (x4 ≤ I 171 ((96 * x1) + (I 172 ((nmS (I 159 ((20 * x1) + 9).toNat) (swS (I 159 ((20 * x1) + 9).toNat) x2 x3 (I 175) (rnO (I 176) x6 ((I 156 37)).toNat) (I 159 ((20 * x1) + 9).toNat).toNat) (I 159 ((20 * x1) + 9).toNat).toNat).1).toNat)).toNat) → L_X12_isLower_38 d 156 x1 x2 x3 x4 x5 (x6 + 1) (nmI I (I 159 ((20 * x1) + 9).toNat) (swS (I 159 ((20 * x1) + 9).toNat) x2 x3 (I 175) (rnO (I 176) x6 ((I 156 37)).toNat) (I 159 ((20 * x1) + 9).toNat).toNat)) S v h1)
    (k3 : (x6 < 128) → (p_and x6 (p_xor x5 (-1)) ≠ 0) → L_X12_isLower_38 d 156 x1 x2 x3 x4 x5 (x6 + 1) I S v h1)
    (r1 : (128 ≤ x6) → 0 = v)
    (e1 : (128 ≤ x6) → (I, S) = h1 := by intros; rfl)
    (r2 : (x6 < 128) → (p_and x6 (p_xor x5 (-1)) = 0) → (I 171 ((96 * x1) + (I 172 ((nmS (I 159 ((20 * x1) + 9).toNat) (swS (I 159 ((20 * x1) + 9).toNat) x2 x3 (I 175) (rnO (I 176) x6 ((I 156 37)).toNat) (I 159 ((20 * x1) + 9).toNat).toNat) (I 159 ((20 * x1) + 9).toNat).toNat).1).toNat)).toNat ≠ (-1)) → (I 171 ((96 * x1) + (I 172 ((nmS (I 159 ((20 * x1) + 9).toNat) (swS (I 159 ((20 * x1) + 9).toNat) x2 x3 (I 175) (rnO (I 176) x6 ((I 156 37)).toNat) (I 159 ((20 * x1) + 9).toNat).toNat) (I 159 ((20 * x1) + 9).toNat).toNat).1).toNat)).toNat < x4) → 1 = v)
    (e2 : (x6 < 128) → (p_and x6 (p_xor x5 (-1)) = 0) → (I 171 ((96 * x1) + (I 172 ((nmS (I 159 ((20 * x1) + 9).toNat) (swS (I 159 ((20 * x1) + 9).toNat) x2 x3 (I 175) (rnO (I 176) x6 ((I 156 37)).toNat) (I 159 ((20 * x1) + 9).toNat).toNat) (I 159 ((20 * x1) + 9).toNat).toNat).1).toNat)).toNat ≠ (-1)) → (I 171 ((96 * x1) + (I 172 ((nmS (I 159 ((20 * x1) + 9).toNat) (swS (I 159 ((20 * x1) + 9).toNat) x2 x3 (I 175) (rnO (I 176) x6 ((I 156 37)).toNat) (I 159 ((20 * x1) + 9).toNat).toNat) (I 159 ((20 * x1) + 9).toNat).toNat).1).toNat)).toNat < x4) → ((nmI I (I 159 ((20 * x1) + 9).toNat) (swS (I 159 ((20 * x1) + 9).toNat) x2 x3 (I 175) (rnO (I 176) x6 ((I 156 37)).toNat) (I 159 ((20 * x1) + 9).toNat).toNat)), S) = h1 := by intros; rfl)
    (v1 : (x6 < 128) → (p_and x6 (p_xor x5 (-1)) = 0) → -2147483648 ≤ 96 * x1 ∧ 96 * x1 ≤ 2147483647 := by intros; first | assumption | omega | (split <;> omega))
    (v2 : (x6 < 128) → (p_and x6 (p_xor x5 (-1)) = 0) → 0 ≤ (I 156 37) ∧ (I 156 37) ≤ 7 := by intros; first | assumption | omega | (split <;> omega))
    (v3 : (x6 < 128) → (p_and x6 (p_xor x5 (-1)) = 0) → 0 ≤ x1 ∧ x1 < 4 := by intros; first | assumption | omega | (split <;> omega))
    (v4 : (x6 < 128) → (p_and x6 (p_xor x5 (-1)) = 0) → 0 ≤ I 159 ((20 * x1) + 9).toNat ∧ I 159 ((20 * x1) + 9).toNat ≤ 7 := by intros; first | assumption | omega | (split <;> omega))
    (v5 : (x6 < 128) → (p_and x6 (p_xor x5 (-1)) = 0) → 0 ≤ x3 ∧ x3 ≤ 2 := by intros; first | assumption | omega | (split <;> omega))
    (v6 : (x6 < 128) → (p_and x6 (p_xor x5 (-1)) = 0) → 0 ≤ (nmS (I 159 ((20 * x1) + 9).toNat) (swS (I 159 ((20 * x1) + 9).toNat) x2 x3 (I 175) (rnO (I 176) x6 ((I 156 37)).toNat) (I 159 ((20 * x1) + 9).toNat).toNat) (I 159 ((20 * x1) + 9).toNat).toNat).1 ∧ (nmS (I 159 ((20 * x1) + 9).toNat) (swS (I 159 ((20 * x1) + 9).toNat) x2 x3 (I 175) (rnO (I 176) x6 ((I 156 37)).toNat) (I 159 ((20 * x1) + 9).toNat).toNat) (I 159 ((20 * x1) + 9).toNat).toNat).1 < (16384 : Nat) := by intros; first | assumption | omega | (split <;> omega))
    (v7 : (x6 < 128) → (p_and x6 (p_xor x5 (-1)) = 0) → -2147483648 ≤ (96 * x1) + (I 172 ((nmS (I 159 ((20 * x1) + 9).toNat) (swS (I 159 ((20 * x1) + 9).toNat) x2 x3 (I 175) (rnO (I 176) x6 ((I 156 37)).toNat) (I 159 ((20 * x1) + 9).toNat).toNat) (I 159 ((20 * x1) + 9).toNat).toNat).1).toNat) ∧ (96 * x1) + (I 172 ((nmS (I 159 ((20 * x1) + 9).toNat) (swS (I 159 ((20 * x1) + 9).toNat) x2 x3 (I 175) (rnO (I 176) x6 ((I 156 37)).toNat) (I 159 ((20 * x1) + 9).toNat).toNat) (I 159 ((20 * x1) + 9).toNat).toNat).1).toNat) ≤ 2147483647 := by intros; first | assumption | omega | (split <;> omega))
    (v8 : (x6 < 128) → (p_and x6 (p_xor x5 (-1)) = 0) → 0 ≤ (96 * x1) + (I 172 ((nmS (I 159 ((20 * x1) + 9).toNat) (swS (I 159 ((20 * x1) + 9).toNat) x2 x3 (I 175) (rnO (I 176) x6 ((I 156 37)).toNat) (I 159 ((20 * x1) + 9).toNat).toNat) (I 159 ((20 * x1) + 9).toNat).toNat).1).toNat) ∧ (96 * x1) + (I 172 ((nmS (I 159 ((20 * x1) + 9).toNat) (swS (I 159 ((20 * x1) + 9).toNat) x2 x3 (I 175) (rnO (I 176) x6 ((I 156 37)).toNat) (I 159 ((20 * x1) + 9).toNat).toNat) (I 159 ((20 * x1) + 9).toNat).toNat).1).toNat) < (384 : Nat) := by intros; first | assumption | omega | (split <;> omega))
    (v9 : (x6 < 128) → (p_and x6 (p_xor x5 (-1)) = 0) → (I 171 ((96 * x1) + (I 172 ((nmS (I 159 ((20 * x1) + 9).toNat) (swS (I 159 ((20 * x1) + 9).toNat) x2 x3 (I 175) (rnO (I 176) x6 ((I 156 37)).toNat) (I 159 ((20 * x1) + 9).toNat).toNat) (I 159 ((20 * x1) + 9).toNat).toNat).1).toNat)).toNat = (-1)) → -2147483648 ≤ x6 + 1 ∧ x6 + 1 ≤ 2147483647 := by intros; first | assumption | omega | (split <;> omega))
    (v10 : (x6 < 128) → (p_and x6 (p_xor x5 (-1)) = 0) → (I 171 ((96 * x1) + (I 172 ((nmS (I 159 ((20 * x1) + 9).toNat) (swS (I 159 ((20 * x1) + 9).toNat) x2 x3 (I 175) (rnO (I 176) x6 ((I 156 37)).toNat) (I 159 ((20 * x1) + 9).toNat).toNat) (I 159 ((20 * x1) + 9).toNat).toNat).1).toNat)).toNat ≠ (-1)) → (x4 ≤ I 171 ((96 * x1) + (I 172 ((nmS (I 159 ((20 * x1) + 9).toNat) (swS (I 159 ((20 * x1) + 9).toNat) x2 x3 (I 175) (rnO (I 176) x6 ((I 156 37)).toNat) (I 159 ((20 * x1) + 9).toNat).toNat) (I 159 ((20 * x1) + 9).toNat).toNat).1).toNat)).toNat) → -2147483648 ≤ x6 + 1 ∧ x6 + 1 ≤ 2147483647 := by intros; first | assumption | omega | (split <;> omega))
    (v11 : (x6 < 128) → (p_and x6 (p_xor x5 (-1)) ≠ 0) → -2147483648 ≤ x6 + 1 ∧ x6 + 1 ≤ 2147483647 := by intros; first | assumption | omega | (split <;> omega)) : L_X12_isLower_38 d 156 x1 x2 x3 x4 x5 x6 I S v h1 :=
  
  b_X12_isLower_38  (fun (c1 : 128 ≤ x6) => ev_ret2 (r1 c1) (e1 c1) (b_X12_isLower_110 )) (fun (c2 : x6 < 128) => 
    b_X12_isLower_46  (fun (c3 : p_and x6 (p_xor x5 (-1)) = 0) => 
      b_X12_isLower_59 (ly_X12_31 hl0) (v1 c2 c3) (ly_X12_32 hl0) (c_X12_runsOf hl0 (v2 c2 c3)) (
      b_X12_isLower_81  (c_X12_switched0 hl0 (v3 c2 c3) (v4 c2 c3) (v5 c2 c3)) (
      b_X12_isLower_84 (v6 c2 c3) (v7 c2 c3) (v8 c2 c3) (fun (c5 : I 171 ((96 * x1) + (I 172 ((nmS (I 159 ((20 * x1) + 9).toNat) (swS (I 159 ((20 * x1) + 9).toNat) x2 x3 (I 175) (rnO (I 176) x6 ((I 156 37)).toNat) (I 159 ((20 * x1) + 9).toNat).toNat) (I 159 ((20 * x1) + 9).toNat).toNat).1).toNat)).toNat = (-1)) => 
        b_X12_isLower_104 (v9 c2 c3 c5) ((k1 c2 c3 c5))) (fun (c6 : I 171 ((96 * x1) + (I 172 ((nmS (I 159 ((20 * x1) + 9).toNat) (swS (I 159 ((20 * x1) + 9).toNat) x2 x3 (I 175) (rnO (I 176) x6 ((I 156 37)).toNat) (I 159 ((20 * x1) + 9).toNat).toNat) (I 159 ((20 * x1) + 9).toNat).toNat).1).toNat)).toNat ≠ (-1)) => 
        b_X12_isLower_95  (fun (c7 : x4 ≤ I 171 ((96 * x1) + (I 172 ((nmS (I 159 ((20 * x1) + 9).toNat) (swS (I 159 ((20 * x1) + 9).toNat) x2 x3 (I 175) (rnO (I 176) x6 ((I 156 37)).toNat) (I 159 ((20 * x1) + 9).toNat).toNat) (I 159 ((20 * x1) + 9).toNat).toNat).1).toNat)).toNat) => 
          b_X12_isLower_104 (v10 c2 c3 c6 c7) ((k2 c2 c3 c6 c7))) (fun (c8 : I 171 ((96 * x1) + (I 172 ((nmS (I 159 ((20 * x1) + 9).toNat) (swS (I 159 ((20 * x1) + 9).toNat) x2 x3 (I 175) (rnO (I 176) x6 ((I 156 37)).toNat) (I 159 ((20 * x1) + 9).toNat).toNat) (I 159 ((20 * x1) + 9).toNat).toNat).1).toNat)).toNat < x4) => ev_ret2 (r2 c2 c3 c6 c8) (e2 c2 c3 c6 c8) (b_X12_isLower_102 )))))) (fun (c4 : p_and x6 (p_xor x5 (-1)) ≠ 0) => 
      b_X12_isLower_56  (
      b_X12_isLower_104 (v11 c2 c4) ((k3 c2 c4)))))
abbrev L_X12_hub_39 (d : Nat) (a0 : Nat) (x1 : Int) (x2 : Int) (x3 : Int) (x4 : Int) (x5 : Int) (I : Nat → Nat → Int) (S : PS) (v : Int) (h1 : PM) : Prop := Ev (d + 4) mX12_hub (39, [some (vR (some (22, 0, a0))), some (vI x1), some (vI x2), some (vI x3), some (vI x4), some (vI x5)], [], (I, S)) (.inl (some (vI v)), h1)
theorem w_X12_hub_0 {d : Nat} {I : Nat → Nat → Int} {S : PS} {x1 x2 x3 : Int} {v : Int} {h1 : PM} (hl0 : LyX12 S)
    (k1 : ((((0 ≤ x3) ∧ (x3 ≤ 1)))) → (((5 ≤ x1) ∧ (x1 ≤ 7))) → L_X12_hub_39 d 156 x1 x2 x3 x2 (x1 - 1) (up2 I 156 0 0) S v h1)
    (r1 : ((((0 ≤ x3) ∧ (x3 ≤ 1)))) → (¬((5 ≤ x1) ∧ (x1 ≤ 7))) → 0 = v)
    (e1 : ((((0 ≤ x3) ∧ (x3 ≤ 1)))) → (¬((5 ≤ x1) ∧ (x1 ≤ 7))) → ((up2 (up2 I 156 0 0) 156 0 2), S) = h1 := by intros; rfl)
    (r2 : (¬(((0 ≤ x3) ∧ (x3 ≤ 1)))) → 0 = v)
    (e2 : (¬(((0 ≤ x3) ∧ (x3 ≤ 1)))) → ((up2 (up2 I 156 0 0) 156 0 1), S) = h1 := by intros; rfl)
    (v1 : ((((0 ≤ x3) ∧ (x3 ≤ 1)))) → (((5 ≤ x1) ∧ (x1 ≤ 7))) → -2147483648 ≤ x1 - 1 ∧ x1 - 1 ≤ 2147483647 := by intros; first | assumption | omega | (split <;> omega)) : Ca (d + 4) mX12_hub [vR (some (22, 0, 156)), vI x1, vI x2, vI x3] (I, S) (.inl (some (vI v))) h1 :=
  Ca.of rfl rfl (
  (Classical.em ((((0 ≤ x3) ∧ (x3 ≤ 1))))).elim (fun c1 => 
    b_X12_hub_0  (c_X12_isWhat_y hl0 (by first | decide | exact (show 0 = 0 from by decide)) c1) (
    b_X12_hub_11  (fun c => absurd c (by decide)) (fun _ => 
      b_X12_hub_14  c_X12_within (
      (Classical.em (((5 ≤ x1) ∧ (x1 ≤ 7)))).elim (fun c3 => 
        b_X12_hub_22  (c_X12_right_y (b1 := (5 ≤ x1) ∧ (x1 ≤ 7)) hl0 (by first | decide | exact (show 0 = 0 from by decide)) (by first | decide | exact (show (2 : Int) ≠ 0 from by decide)) c3) (
        b_X12_hub_26  (fun _ => 
          b_X12_hub_31 (v1 c1 c3) ((k1 c1 c3))) (fun c => absurd c (by decide)))) (fun c4 => 
        b_X12_hub_22  (c_X12_right_n (b1 := (5 ≤ x1) ∧ (x1 ≤ 7)) hl0 (by first | decide | exact (show 0 = 0 from by decide)) (by first | decide | exact (show (2 : Int) ≠ 0 from by decide)) c4) (
        b_X12_hub_26  (fun c => absurd c (by decide)) (fun _ => ev_ret2 (r1 c1 c4) (e1 c1 c4) (b_X12_hub_29 )))))))) (fun c2 => 
    b_X12_hub_0  (c_X12_isWhat_n hl0 (by first | decide | exact (show 0 = 0 from by decide)) c2) (
    b_X12_hub_11  (fun _ => ev_ret2 (r2 c2) (e2 c2) (b_X12_hub_29 )) (fun c => absurd c (by decide)))))
theorem w_X12_hub_39 {d : Nat} {I : Nat → Nat → Int} {S : PS} {x1 x2 x3 x4 x5 : Int} {v : Int} {h1 : PM} (hl0 : LyX12 S)
    (k1 : (0 ≤ x5) → (((5 ≤ ((up2 I 177 (x5.toNat) (p_rem x4 10)) 177 x5.toNat)) ∧ (((up2 I 177 (x5.toNat) (p_rem x4 10)) 177 x5.toNat) ≤ 9))) → L_X12_hub_39 d 156 x1 x2 x3 (p_div x4 10) (x5 - 1) (up2 I 177 (x5.toNat) (p_rem x4 10)) S v h1)
    (r1 : (x5 < 0) → ((x4 = 0)) → (if x3 ≠ 0 then ((hoM I x1 ((I 156 13)).toNat) : Int) else (chB I 0 x1 x1.toNat)) = v)
    (e1 : (x5 < 0) → ((x4 = 0)) → (I, S) = h1 := by intros; rfl)
    (r2 : (x5 < 0) → (¬(x4 = 0)) → 0 = v)
    (e2 : (x5 < 0) → (¬(x4 = 0)) → ((up2 I 156 0 2), S) = h1 := by intros; rfl)
    (r3 : (0 ≤ x5) → (¬((5 ≤ ((up2 I 177 (x5.toNat) (p_rem x4 10)) 177 x5.toNat)) ∧ (((up2 I 177 (x5.toNat) (p_rem x4 10)) 177 x5.toNat) ≤ 9))) → 0 = v)
    (e3 : (0 ≤ x5) → (¬((5 ≤ ((up2 I 177 (x5.toNat) (p_rem x4 10)) 177 x5.toNat)) ∧ (((up2 I 177 (x5.toNat) (p_rem x4 10)) 177 x5.toNat) ≤ 9))) → ((up2 (up2 I 177 (x5.toNat) (p_rem x4 10)) 156 0 2), S) = h1 := by intros; rfl)
    (v1 : (x5 < 0) → I 156 0 = 0 := by intros; first | assumption | omega | (split <;> omega))
    (v2 : (x5 < 0) → ((x4 = 0)) → (x3 ≠ 0) → 0 ≤ (I 156 13) ∧ (I 156 13) ≤ 4 := by intros; first | assumption | omega | (split <;> omega))
    (v3 : (x5 < 0) → ((x4 = 0)) → (x3 ≠ 0) → 1 ≤ x1 ∧ x1 ≤ 9 := by intros; first | assumption | omega | (split <;> omega))
    (v4 : (x5 < 0) → ((x4 = 0)) → (x3 ≠ 0) → ∀ p : Nat, (p : Int) < (I 156 13) → (0 ≤ I 159 ((20 * (p : Int)) + 1).toNat ∧ I 159 ((20 * (p : Int)) + 1).toNat ≤ 7) ∧ I 159 ((20 * (p : Int)) + 1).toNat ≤ I 159 (20 * (p : Int)).toNat := by intros; first | assumption | omega | (split <;> omega))
    (v5 : (x5 < 0) → ((x4 = 0)) → (x3 = 0) → 0 ≤ (I 156 14) ∧ (I 156 14) ≤ 6 := by intros; first | assumption | omega | (split <;> omega))
    (v6 : (x5 < 0) → ((x4 = 0)) → (x3 = 0) → ∀ k : Nat, (k : Int) < (I 156 14) → 0 ≤ I 178 ((0 : Int) + 12 + (k : Int)).toNat ∧ I 178 ((0 : Int) + 12 + (k : Int)).toNat ≤ 99 := by intros; first | assumption | omega | (split <;> omega))
    (v7 : (x5 < 0) → ((x4 = 0)) → (x3 = 0) → 1 ≤ x1 ∧ x1 ≤ 9 := by intros; first | assumption | omega | (split <;> omega))
    (v8 : (0 ≤ x5) → 0 ≤ x5 ∧ x5 < (9 : Nat) := by intros; first | assumption | omega | (split <;> omega))
    (v9 : (0 ≤ x5) → I 156 0 = 0 := by intros; first | assumption | omega | (split <;> omega))
    (v10 : (0 ≤ x5) → (((5 ≤ ((up2 I 177 (x5.toNat) (p_rem x4 10)) 177 x5.toNat)) ∧ (((up2 I 177 (x5.toNat) (p_rem x4 10)) 177 x5.toNat) ≤ 9))) → -2147483648 ≤ x5 - 1 ∧ x5 - 1 ≤ 2147483647 := by intros; first | assumption | omega | (split <;> omega)) : L_X12_hub_39 d 156 x1 x2 x3 x4 x5 I S v h1 :=
  
  b_X12_hub_39  (fun (c1 : x5 < 0) => 
    have K4 : ∀ us1 : Int, us1 = (if x4 = 0 then (1 : Int) else 0) → Ev (d + 4) mX12_hub (103, [some (vR (some (22, 0, 156))), some (vI x1), some (vI x2), some (vI x3), some (vI x4), some (vI x5)], [vI us1, vR (some (22, 0, 156))], (I, S)) (.inl (some (vI v)), h1) := fun us1 e_us1 => by subst e_us1; exact (
      (Classical.em ((x4 = 0))).elim (fun c6 => 
        b_X12_hub_103  (c_X12_right_y (b1 := x4 = 0) hl0 (v1 c1) (by first | decide | exact (show (2 : Int) ≠ 0 from by decide)) c6) (
        b_X12_hub_107  (fun _ => 
          have K9 : ∀ us0 : Int, us0 = (if x3 ≠ 0 then ((hoM I x1 ((I 156 13)).toNat) : Int) else (chB I 0 x1 x1.toNat)) → Ev (d + 4) mX12_hub (130, [some (vR (some (22, 0, 156))), some (vI x1), some (vI x2), some (vI x3), some (vI x4), some (vI x5)], [vI us0], (I, S)) (.inl (some (vI v)), h1) := fun us0 e_us0 => by subst e_us0; exact (ev_ret2 (r1 c1 c6) (e1 c1 c6) (b_X12_hub_130 ))
          
          b_X12_hub_112  (fun (c8 : x3 ≠ 0) => 
            b_X12_hub_125  (c_X12_holds hl0 (v2 c1 c6 c8) (v3 c1 c6 c8) (v4 c1 c6 c8)) (K9 (hoM I x1 ((I 156 13)).toNat) ((if_pos c8).symm))) (fun (c9 : x3 = 0) => 
            b_X12_hub_116  (c_X12_chargeBy hl0 (by first | decide | exact (show (0 : Int) = 0 ∨ (0 : Int) = 18 from by decide)) (v5 c1 c6 c9) (v6 c1 c6 c9) (v7 c1 c6 c9)) (
            b_X12_hub_122  (K9 (chB I 0 x1 x1.toNat) ((if_neg (fun q => q c9)).symm))))) (fun c => absurd c (by decide)))) (fun c7 => 
        b_X12_hub_103  (c_X12_right_n (b1 := x4 = 0) hl0 (v1 c1) (by first | decide | exact (show (2 : Int) ≠ 0 from by decide)) c7) (
        b_X12_hub_107  (fun c => absurd c (by decide)) (fun _ => ev_ret2 (r2 c1 c7) (e2 c1 c7) (b_X12_hub_110 )))))
    
    b_X12_hub_92  (fun (c3 : x4 ≠ 0) => 
      b_X12_hub_102  (K4 0 (if_neg c3).symm)) (fun (c4 : x4 = 0) => 
      b_X12_hub_98  (K4 1 (if_pos c4).symm))) (fun (c2 : 0 ≤ x5) => 
    b_X12_hub_44 (ly_X12_38 hl0) (v8 c2) (v8 c2) c_X12_within (
    (Classical.em (((5 ≤ ((up2 I 177 (x5.toNat) (p_rem x4 10)) 177 x5.toNat)) ∧ (((up2 I 177 (x5.toNat) (p_rem x4 10)) 177 x5.toNat) ≤ 9)))).elim (fun c11 => 
      b_X12_hub_77  (c_X12_right_y (b1 := (5 ≤ ((up2 I 177 (x5.toNat) (p_rem x4 10)) 177 x5.toNat)) ∧ (((up2 I 177 (x5.toNat) (p_rem x4 10)) 177 x5.toNat) ≤ 9)) hl0 (v9 c2) (by first | decide | exact (show (2 : Int) ≠ 0 from by decide)) c11) (
      b_X12_hub_81  (fun _ => 
        b_X12_hub_86 (v10 c2 c11) ((k1 c2 c11))) (fun c => absurd c (by decide)))) (fun c12 => 
      b_X12_hub_77  (c_X12_right_n (b1 := (5 ≤ ((up2 I 177 (x5.toNat) (p_rem x4 10)) 177 x5.toNat)) ∧ (((up2 I 177 (x5.toNat) (p_rem x4 10)) 177 x5.toNat) ≤ 9)) hl0 (v9 c2) (by first | decide | exact (show (2 : Int) ≠ 0 from by decide)) c12) (
      b_X12_hub_81  (fun c => absurd c (by decide)) (fun _ => ev_ret2 (r3 c2 c12) (e3 c2 c12) (b_X12_hub_84 ))))))
end
