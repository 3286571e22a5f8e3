noncomputable section
abbrev L_X12_isCovered_8 (d : Nat) (a0 : Nat) (x1 : Int) (x2 : Int) (x3 : Int) (I : Nat → Nat → Int) (S : PS) (v : Int) (h1 : PM) : Prop := Ev (d + 3) mX12_isCovered (8, [some (vR (some (22, 0, a0))), some (vI x1), some (vI x2), some (vI x3)], [], (I, S)) (.inl (some (vI v)), h1)
theorem w_X12_isCovered_0 {d : Nat} {I : Nat → Nat → Int} {S : PS} {x1 : Int} {v : Int} {h1 : PM} (hl0 : LyX12 S)
    (k1 : L_X12_isCovered_8 d 156 x1 (hoM I x1 ((I 156 13)).toNat) 0 I S v h1)
    (v1 : 0 ≤ (I 156 13) ∧ (I 156 13) ≤ 4 := by intros; first | assumption | omega | (split <;> omega))
    (v2 : 1 ≤ x1 ∧ x1 ≤ 9 := by intros; first | assumption | omega | (split <;> omega))
    (v3 : ∀ p : Nat, (p : Int) < (I 156 13) → (0 ≤ I 159 ((20 * (p : Int)) + 1).toNat ∧ I 159 ((20 * (p : Int)) + 1).toNat ≤ 7) ∧ I 159 ((20 * (p : Int)) + 1).toNat ≤ I 159 (20 * (p : Int)).toNat := by intros; first | assumption | omega | (split <;> omega)) : Ca (d + 3) mX12_isCovered [vR (some (22, 0, 156)), vI x1] (I, S) (.inl (some (vI v))) h1 :=
  Ca.of rfl rfl (
  b_X12_isCovered_0  (c_X12_holds hl0 v1 v2 v3) (
  b_X12_isCovered_5  (k1)))
theorem w_X12_isCovered_8 {d : Nat} {I : Nat → Nat → Int} {S : PS} {x1 x2 x3 : Int} {v : Int} {h1 : PM} (hl0 : LyX12 S)
    (k1 : (x3 < I 156 13) → (p_and (p_shr x2 x3) 1 ≠ 1) → L_X12_isCovered_8 d 156 x1 x2 (x3 + 1) I S v h1)
    (k2 : (x3 < I 156 13) → (p_and (p_shr x2 x3) 1 = 1) → (¬(((smI (fun k => if I 171 ((96 * x3) + (k : Int)).toNat = (-1) then 1 else 0) (I 167 x3.toNat).toNat) = 0) ∨ (icM I x3 = true))) → L_X12_isCovered_8 d 156 x1 x2 (x3 + 1) I S v h1)
    (r1 : (I 156 13 ≤ x3) → 0 = v)
    (e1 : (I 156 13 ≤ x3) → (I, S) = h1 := by intros; rfl)
    (r2 : (x3 < I 156 13) → (p_and (p_shr x2 x3) 1 = 1) → (((smI (fun k => if I 171 ((96 * x3) + (k : Int)).toNat = (-1) then 1 else 0) (I 167 x3.toNat).toNat) = 0) ∨ (icM I x3 = true)) → 1 = v)
    (e2 : (x3 < I 156 13) → (p_and (p_shr x2 x3) 1 = 1) → (((smI (fun k => if I 171 ((96 * x3) + (k : Int)).toNat = (-1) then 1 else 0) (I 167 x3.toNat).toNat) = 0) ∨ (icM I x3 = true)) → (I, S) = h1 := by intros; rfl)
    (v1 : (x3 < I 156 13) → (p_and (p_shr x2 x3) 1 ≠ 1) → -2147483648 ≤ x3 + 1 ∧ x3 + 1 ≤ 2147483647 := by intros; first | assumption | omega | (split <;> omega))
    (v2 : (x3 < I 156 13) → (p_and (p_shr x2 x3) 1 = 1) → 0 ≤ x3 ∧ x3 < 4 := by intros; first | assumption | omega | (split <;> omega))
    (v3 : (x3 < I 156 13) → (p_and (p_shr x2 x3) 1 = 1) → 0 ≤ I 167 x3.toNat ∧ I 167 x3.toNat ≤ 96 := by intros; first | assumption | omega | (split <;> omega))
    (v4 : (x3 < I 156 13) → (p_and (p_shr x2 x3) 1 = 1) → ((smI (fun k => if I 171 ((96 * x3) + (k : Int)).toNat = (-1) then 1 else 0) (I 167 x3.toNat).toNat) ≠ 0) → ∀ k : Nat, (k : Int) < I 167 x3.toNat → 0 ≤ I 170 ((96 * x3) + (k : Int)).toNat ∧ I 170 ((96 * x3) + (k : Int)).toNat ≤ 1 := by intros; first | assumption | omega | (split <;> omega))
    (v5 : (x3 < I 156 13) → (p_and (p_shr x2 x3) 1 = 1) → (¬(((smI (fun k => if I 171 ((96 * x3) + (k : Int)).toNat = (-1) then 1 else 0) (I 167 x3.toNat).toNat) = 0) ∨ (icM I x3 = true))) → -2147483648 ≤ x3 + 1 ∧ x3 + 1 ≤ 2147483647 := by intros; first | assumption | omega | (split <;> omega)) : L_X12_isCovered_8 d 156 x1 x2 x3 I S v h1 :=
  
  b_X12_isCovered_8  (fun (c1 : I 156 13 ≤ x3) => ev_ret2 (r1 c1) (e1 c1) (b_X12_isCovered_41 )) (fun (c2 : x3 < I 156 13) => 
    b_X12_isCovered_16  (fun (c3 : p_and (p_shr x2 x3) 1 ≠ 1) => 
      b_X12_isCovered_35 (v1 c2 c3) ((k1 c2 c3))) (fun (c4 : p_and (p_shr x2 x3) 1 = 1) => 
      b_X12_isCovered_25  (c_X12_isReducible hl0 (v2 c2 c4) (v3 c2 c4) (v4 c2 c4)) (
      b_X12_isCovered_30  (fun c5' => have c5 : ¬(((smI (fun k => if I 171 ((96 * x3) + (k : Int)).toNat = (-1) then 1 else 0) (I 167 x3.toNat).toNat) = 0) ∨ (icM I x3 = true)) := b2f c5'; 
        b_X12_isCovered_35 (v5 c2 c4 c5) ((k2 c2 c4 c5))) (fun c6' => have c6 : ((smI (fun k => if I 171 ((96 * x3) + (k : Int)).toNat = (-1) then 1 else 0) (I 167 x3.toNat).toNat) = 0) ∨ (icM I x3 = true) := b2t c6'; ev_ret2 (r2 c2 c4 c6) (e2 c2 c4 c6) (b_X12_isCovered_33 )))))
abbrev L_X12_chargeAll_4 (d : Nat) (a0 : Nat) (x1 : Int) (x2 : Int) (x3 : Int) (I : Nat → Nat → Int) (S : PS) (v : Int) (h1 : PM) : Prop := Ev (d + 5) mX12_chargeAll (4, [some (vR (some (22, 0, a0))), some (vI x1), some (vI x2), some (vI x3)], [], (I, S)) (.inl (some (vI v)), h1)
theorem w_X12_chargeAll_0 {d : Nat} {I : Nat → Nat → Int} {S : PS} {x1 : Int} {v : Int} {h1 : PM} (hl0 : LyX12 S)
    (k1 : L_X12_chargeAll_4 d 156 x1 0 0 I S v h1) : Ca (d + 5) mX12_chargeAll [vR (some (22, 0, 156)), vI x1] (I, S) (.inl (some (vI v))) h1 :=
  Ca.of rfl rfl (
  b_X12_chargeAll_0  (k1))
theorem w_X12_chargeAll_4 {d : Nat} {I : Nat → Nat → Int} {S : PS} {x1 x2 x3 : Int} {v : Int} {h1 : PM} (hl0 : LyX12 S)
    (k1 : (x3 < I 156 15) → (x1 ≠ 0) → (x1 ≠ 1) → L_X12_chargeAll_4 d 156 x1 (x2 + (if 0 < (mcs I 0 x3) then (1 : Int) else 0)) (x3 + 1) (lnI I x3) S v h1)
    (k2 : (x3 < I 156 15) → (x1 ≠ 0) → (x1 = 1) → L_X12_chargeAll_4 d 156 x1 (x2 + (mcs I 0 x3)) (x3 + 1) (lnI I x3) S v h1)
    (k3 : (x3 < I 156 15) → (x1 = 0) → L_X12_chargeAll_4 d 156 x1 (x2 + (10 * (6 - (I 161 (10 * x3).toNat)))) (x3 + 1) I S v h1)
    (r1 : (I 156 15 ≤ x3) → x2 = v)
    (e1 : (I 156 15 ≤ x3) → (I, S) = h1 := by intros; rfl)
    (v1 : (x3 < I 156 15) → (x1 ≠ 0) → (x1 ≠ 1) → mSp I := by intros; first | assumption | omega | (split <;> omega))
    (v2 : (x3 < I 156 15) → (x1 ≠ 0) → (x1 ≠ 1) → mRl I (0 : Int) := by intros; first | assumption | omega | (split <;> omega))
    (v3 : (x3 < I 156 15) → (x1 ≠ 0) → (x1 ≠ 1) → 0 ≤ x3 ∧ x3 < (I 156 15) := by intros; first | assumption | omega | (split <;> omega))
    (v4 : (x3 < I 156 15) → (x1 ≠ 0) → (x1 ≠ 1) → -2147483648 ≤ x2 + (if 0 < (mcs I 0 x3) then (1 : Int) else 0) ∧ x2 + (if 0 < (mcs I 0 x3) then (1 : Int) else 0) ≤ 2147483647 := by intros; first | assumption | omega | (split <;> omega))
    (v5 : (x3 < I 156 15) → (x1 ≠ 0) → (x1 ≠ 1) → -2147483648 ≤ x3 + 1 ∧ x3 + 1 ≤ 2147483647 := by intros; first | assumption | omega | (split <;> omega))
    (v6 : (x3 < I 156 15) → (x1 ≠ 0) → (x1 = 1) → mSp I := by intros; first | assumption | omega | (split <;> omega))
    (v7 : (x3 < I 156 15) → (x1 ≠ 0) → (x1 = 1) → mRl I (0 : Int) := by intros; first | assumption | omega | (split <;> omega))
    (v8 : (x3 < I 156 15) → (x1 ≠ 0) → (x1 = 1) → 0 ≤ x3 ∧ x3 < (I 156 15) := by intros; first | assumption | omega | (split <;> omega))
    (v9 : (x3 < I 156 15) → (x1 ≠ 0) → (x1 = 1) → -2147483648 ≤ x2 + (mcs I 0 x3) ∧ x2 + (mcs I 0 x3) ≤ 2147483647 := by intros; first | assumption | omega | (split <;> omega))
    (v10 : (x3 < I 156 15) → (x1 ≠ 0) → (x1 = 1) → -2147483648 ≤ x3 + 1 ∧ x3 + 1 ≤ 2147483647 := by intros; first | assumption | omega | (split <;> omega))
    (v11 : (x3 < I 156 15) → (x1 = 0) → 0 ≤ x3 ∧ x3 < 12 := by intros; first | assumption | omega | (split <;> omega))
    (v12 : (x3 < I 156 15) → (x1 = 0) → -2147483648 ≤ 6 - (I 161 (10 * x3).toNat) ∧ 6 - (I 161 (10 * x3).toNat) ≤ 2147483647 := by intros; first | assumption | omega | (split <;> omega))
    (v13 : (x3 < I 156 15) → (x1 = 0) → -2147483648 ≤ 10 * (6 - (I 161 (10 * x3).toNat)) ∧ 10 * (6 - (I 161 (10 * x3).toNat)) ≤ 2147483647 := by intros; first | assumption | omega | (split <;> omega))
    (v14 : (x3 < I 156 15) → (x1 = 0) → -2147483648 ≤ x2 + (10 * (6 - (I 161 (10 * x3).toNat))) ∧ x2 + (10 * (6 - (I 161 (10 * x3).toNat))) ≤ 2147483647 := by intros; first | assumption | omega | (split <;> omega))
    (v15 : (x3 < I 156 15) → (x1 = 0) → -2147483648 ≤ x3 + 1 ∧ x3 + 1 ≤ 2147483647 := by intros; first | assumption | omega | (split <;> omega)) : L_X12_chargeAll_4 d 156 x1 x2 x3 I S v h1 :=
  
  b_X12_chargeAll_4  (fun (c1 : I 156 15 ≤ x3) => ev_ret2 (r1 c1) (e1 c1) (b_X12_chargeAll_67 )) (fun (c2 : x3 < I 156 15) => 
    b_X12_chargeAll_12  (fun (c3 : x1 ≠ 0) => 
      b_X12_chargeAll_31  (fun (c5 : x1 ≠ 1) => 
        b_X12_chargeAll_45  (k_X12_behind hl0 (by first | decide | exact (show (0 : Int) = 0 ∨ (0 : Int) = 18 from by decide)) (v1 c2 c3 c5) (v2 c2 c3 c5) (v3 c2 c3 c5)) (
        have K8 : ∀ us1 : Int, us1 = (if 0 < (mcs I 0 x3) then (1 : Int) else 0) → Ev (d + 5) mX12_chargeAll (59, [some (vR (some (22, 0, 156))), some (vI x1), some (vI x2), some (vI x3)], [vI us1, vI x2], ((lnI I x3), S)) (.inl (some (vI v)), h1) := fun us1 e_us1 => by subst e_us1; exact (
          b_X12_chargeAll_59 (v4 c2 c3 c5) (v5 c2 c3 c5) ((k1 c2 c3 c5)))
        
        b_X12_chargeAll_51  (fun (c7 : (mcs I 0 x3) ≤ 0) => 
          b_X12_chargeAll_58  (K8 0 (if_neg (Int.not_lt.mpr c7)).symm)) (fun (c8 : 0 < (mcs I 0 x3)) => 
          b_X12_chargeAll_54  (K8 1 (if_pos c8).symm)))) (fun (c6 : x1 = 1) => 
        b_X12_chargeAll_36  (k_X12_behind hl0 (by first | decide | exact (show (0 : Int) = 0 ∨ (0 : Int) = 18 from by decide)) (v6 c2 c3 c6) (v7 c2 c3 c6) (v8 c2 c3 c6)) (
        b_X12_chargeAll_42  (
        b_X12_chargeAll_59 (v9 c2 c3 c6) (v10 c2 c3 c6) ((k2 c2 c3 c6)))))) (fun (c4 : x1 = 0) => 
      b_X12_chargeAll_17  (c_X12_degree hl0 (v11 c2 c4)) (
      b_X12_chargeAll_26 (v12 c2 c4) (v13 c2 c4) (
      b_X12_chargeAll_59 (v14 c2 c4) (v15 c2 c4) ((k3 c2 c4))))))
abbrev L_X12_isNoted_2 (d : Nat) (a0 : Nat) (x1 : Int) (I : Nat → Nat → Int) (S : PS) (v : Int) (h1 : PM) : Prop := Ev (d + 5) mX12_isNoted (2, [some (vR (some (22, 0, a0))), some (vI x1)], [], (I, S)) (.inl (some (vI v)), h1)
theorem w_X12_isNoted_0 {d : Nat} {I : Nat → Nat → Int} {S : PS} {v : Int} {h1 : PM} (hl0 : LyX12 S)
    (k1 : L_X12_isNoted_2 d 156 0 I S v h1) : Ca (d + 5) mX12_isNoted [vR (some (22, 0, 156))] (I, S) (.inl (some (vI v))) h1 :=
  Ca.of rfl rfl (
  b_X12_isNoted_0  (k1))
theorem w_X12_isNoted_2 {d : Nat} {I : Nat → Nat → Int} {S : PS} {x1 : Int} {v : Int} {h1 : PM} (hl0 : LyX12 S)
    (k1 : (x1 < I 156 56) → ((mcs I 18 (I 187 (2 * x1).toNat)) = I 187 ((2 * x1) + 1).toNat) → L_X12_isNoted_2 d 156 (x1 + 1) (lnI I (I 187 (2 * x1).toNat)) S v h1)
    (r1 : (I 156 56 ≤ x1) → 1 = v)
    (e1 : (I 156 56 ≤ x1) → (I, S) = h1 := by intros; rfl)
    (r2 : (x1 < I 156 56) → ((mcs I 18 (I 187 (2 * x1).toNat)) ≠ I 187 ((2 * x1) + 1).toNat) → 0 = v)
    (e2 : (x1 < I 156 56) → ((mcs I 18 (I 187 (2 * x1).toNat)) ≠ I 187 ((2 * x1) + 1).toNat) → ((lnI I (I 187 (2 * x1).toNat)), S) = h1 := by intros; rfl)
    (v1 : (x1 < I 156 56) → -2147483648 ≤ 2 * x1 ∧ 2 * x1 ≤ 2147483647 := by intros; first | assumption | omega | (split <;> omega))
    (v2 : (x1 < I 156 56) → 0 ≤ 2 * x1 ∧ 2 * x1 < (16 : Nat) := by intros; first | assumption | omega | (split <;> omega))
    (v3 : (x1 < I 156 56) → mSp I := by intros; first | assumption | omega | (split <;> omega))
    (v4 : (x1 < I 156 56) → mRl I (18 : Int) := by intros; first | assumption | omega | (split <;> omega))
    (v5 : (x1 < I 156 56) → 0 ≤ (I 187 (2 * x1).toNat) ∧ (I 187 (2 * x1).toNat) < (I 156 15) := by intros; first | assumption | omega | (split <;> omega))
    (v6 : (x1 < I 156 56) → -2147483648 ≤ (2 * x1) + 1 ∧ (2 * x1) + 1 ≤ 2147483647 := by intros; first | assumption | omega | (split <;> omega))
    (v7 : (x1 < I 156 56) → 0 ≤ (2 * x1) + 1 ∧ (2 * x1) + 1 < (16 : Nat) := by intros; first | assumption | omega | (split <;> omega))
    (v8 : (x1 < I 156 56) → ((mcs I 18 (I 187 (2 * x1).toNat)) = I 187 ((2 * x1) + 1).toNat) → -2147483648 ≤ x1 + 1 ∧ x1 + 1 ≤ 2147483647 := by intros; first | assumption | omega | (split <;> omega)) : L_X12_isNoted_2 d 156 x1 I S v h1 :=
  
  b_X12_isNoted_2  (fun (c1 : I 156 56 ≤ x1) => ev_ret2 (r1 c1) (e1 c1) (b_X12_isNoted_45 )) (fun (c2 : x1 < I 156 56) => 
    b_X12_isNoted_10 (ly_X12_57 hl0) (v1 c2) (v2 c2) (k_X12_behind hl0 (by first | decide | exact (show (18 : Int) = 0 ∨ (18 : Int) = 18 from by decide)) (v3 c2) (v4 c2) (v5 c2)) (
    b_X12_isNoted_24 (ly_X12_57 hl0) (v1 c2) (v6 c2) (v7 c2) (fun (c3 : (mcs I 18 (I 187 (2 * x1).toNat)) = I 187 ((2 * x1) + 1).toNat) => 
      b_X12_isNoted_39 (v8 c2 c3) ((k1 c2 c3))) (fun (c4 : (mcs I 18 (I 187 (2 * x1).toNat)) ≠ I 187 ((2 * x1) + 1).toNat) => ev_ret2 (r2 c2 c4) (e2 c2 c4) (b_X12_isNoted_37 ))))
end
