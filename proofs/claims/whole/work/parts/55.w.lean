noncomputable section
abbrev L_X12_waysOf_4 (d : Nat) (a0 : Nat) (x1 : Int) (x2 : Int) (I : Nat → Nat → Int) (S : PS) (v : Int) (h1 : PM) : Prop := Ev (d + 1) mX12_waysOf (4, [some (vR (some (22, 0, a0))), some (vI x1), some (vI x2)], [], (I, S)) (.inl (some (vI v)), h1)
theorem w_X12_waysOf_0 {d : Nat} {I : Nat → Nat → Int} {S : PS} {v : Int} {h1 : PM} (hl0 : LyX12 S)
    (k1 : L_X12_waysOf_4 d 156 1 0 I S v h1) : Ca (d + 1) mX12_waysOf [vR (some (22, 0, 156))] (I, S) (.inl (some (vI v))) h1 :=
  Ca.of rfl rfl (
  b_X12_waysOf_0  (k1))
theorem w_X12_waysOf_4 {d : Nat} {I : Nat → Nat → Int} {S : PS} {x1 x2 : Int} {v : Int} {h1 : PM} (hl0 : LyX12 S)
    (k7 : (x2 < (I 156 37 + 1) / 2) → L_X12_waysOf_4 d 156 (4 * x1) (x2 + 1) I S v h1)
    (k8 : ((I 156 37 + 1) / 2 ≤ x2) → x1 = v)
    (h9 : ((I 156 37 + 1) / 2 ≤ x2) → (I, S) = h1 := by intros; rfl)
    (v1 : -2147483648 ≤ I 156 37 + 1 ∧ I 156 37 + 1 ≤ 2147483647 := by intros; first | assumption | omega | (split <;> omega))
    (v2 : (0 ≤ I 156 37 + 1 ∧ I 156 37 + 1 ≤ 2147483647) ∧ 0 < (2 : Int) ∧ (2 : Int) ≤ 2147483647 := by intros; first | assumption | omega | (split <;> omega))
    (v5 : (x2 < (I 156 37 + 1) / 2) → -2147483648 ≤ 4 * x1 ∧ 4 * x1 ≤ 2147483647 := by intros; first | assumption | omega | (split <;> omega))
    (v6 : (x2 < (I 156 37 + 1) / 2) → -2147483648 ≤ x2 + 1 ∧ x2 + 1 ≤ 2147483647 := by intros; first | assumption | omega | (split <;> omega)) : L_X12_waysOf_4 d 156 x1 x2 I S v h1 :=
  
  b_X12_waysOf_4  (c_X12_firsts hl0 v1 v2) (
  b_X12_waysOf_9  (fun (c3 : (I 156 37 + 1) / 2 ≤ x2) => ev_ret2 (k8 c3) (h9 c3) (b_X12_waysOf_22 )) (fun (c4 : x2 < (I 156 37 + 1) / 2) => 
    b_X12_waysOf_12 (v5 c4) (v6 c4) ((k7 c4))))
abbrev L_X12_step5_4 (d : Nat) (a0 : Nat) (x1 : Int) (x2 : Int) (x3 : Int) (I : Nat → Nat → Int) (S : PS) (v : Int) (h1 : PM) : Prop := Ev d mX12_step5 (4, [some (vR (some (22, 0, a0))), some (vI x1), some (vI x2), some (vI x3)], [], (I, S)) (.inl (some (vI v)), h1)
theorem w_X12_step5_0 {d : Nat} {I : Nat → Nat → Int} {S : PS} {x1 : Int} {v : Int} {h1 : PM} (hl0 : LyX12 S)
    (k1 : L_X12_step5_4 d 156 x1 1 0 I S v h1) : Ca d mX12_step5 [vR (some (22, 0, 156)), vI x1] (I, S) (.inl (some (vI v))) h1 :=
  Ca.of rfl rfl (
  b_X12_step5_0  (k1))
theorem w_X12_step5_4 {d : Nat} {I : Nat → Nat → Int} {S : PS} {x1 x2 x3 : Int} {v : Int} {h1 : PM} (hl0 : LyX12 S)
    (k5 : (x3 < x1) → L_X12_step5_4 d 156 x1 (5 * x2) (x3 + 1) I S v h1)
    (k6 : (x1 ≤ x3) → x2 = v)
    (h7 : (x1 ≤ x3) → (I, S) = h1 := by intros; rfl)
    (v3 : (x3 < x1) → -2147483648 ≤ 5 * x2 ∧ 5 * x2 ≤ 2147483647 := by intros; first | assumption | omega | (split <;> omega))
    (v4 : (x3 < x1) → -2147483648 ≤ x3 + 1 ∧ x3 + 1 ≤ 2147483647 := by intros; first | assumption | omega | (split <;> omega)) : L_X12_step5_4 d 156 x1 x2 x3 I S v h1 :=
  
  b_X12_step5_4  (fun (c1 : x1 ≤ x3) => ev_ret2 (k6 c1) (h7 c1) (b_X12_step5_19 )) (fun (c2 : x3 < x1) => 
    b_X12_step5_9 (v3 c2) (v4 c2) ((k5 c2)))
abbrev L_X12_figureOf_5 (d : Nat) (a0 : Nat) (x1 : Int) (x2 : Int) (x3 : Int) (x4 : Int) (I : Nat → Nat → Int) (S : PS) (v : Int) (h1 : PM) : Prop := Ev d mX12_figureOf (5, [some (vR (some (22, 0, a0))), some (vI x1), some (vI x2), some (vI x3), some (vI x4)], [], (I, S)) (.inl (some (vI v)), h1)
theorem w_X12_figureOf_0 {d : Nat} {I : Nat → Nat → Int} {S : PS} {x1 x2 : Int} {v : Int} {h1 : PM} (hl0 : LyX12 S)
    (k1 : L_X12_figureOf_5 d 156 x1 x2 x1 0 I S v h1) : Ca d mX12_figureOf [vR (some (22, 0, 156)), vI x1, vI x2] (I, S) (.inl (some (vI v))) h1 :=
  Ca.of rfl rfl (
  b_X12_figureOf_0  (k1))
theorem w_X12_figureOf_5 {d : Nat} {I : Nat → Nat → Int} {S : PS} {x1 x2 x3 x4 : Int} {v : Int} {h1 : PM} (hl0 : LyX12 S)
    (k6 : (x4 < x2) → L_X12_figureOf_5 d 156 x1 x2 (x3 / 5) (x4 + 1) I S v h1)
    (k7 : (x2 ≤ x4) → x3 % 5 = v)
    (h8 : (x2 ≤ x4) → (I, S) = h1 := by intros; rfl)
    (v3 : (x2 ≤ x4) → (0 ≤ x3 ∧ x3 ≤ 2147483647) ∧ 0 < (5 : Int) ∧ (5 : Int) ≤ 2147483647 := by intros; first | assumption | omega | (split <;> omega))
    (v4 : (x4 < x2) → (0 ≤ x3 ∧ x3 ≤ 2147483647) ∧ 0 < (5 : Int) ∧ (5 : Int) ≤ 2147483647 := by intros; first | assumption | omega | (split <;> omega))
    (v5 : (x4 < x2) → -2147483648 ≤ x4 + 1 ∧ x4 + 1 ≤ 2147483647 := by intros; first | assumption | omega | (split <;> omega)) : L_X12_figureOf_5 d 156 x1 x2 x3 x4 I S v h1 :=
  
  b_X12_figureOf_5  (fun (c1 : x2 ≤ x4) => ev_ret2 (k7 c1) (h8 c1) (b_X12_figureOf_21 (v3 c1))) (fun (c2 : x4 < x2) => 
    b_X12_figureOf_11 (v4 c2) (v5 c2) ((k6 c2)))
abbrev L_X12_find_2 (d : Nat) (a0 : Nat) (x1 : Int) (x2 : Int) (x3 : Int) (I : Nat → Nat → Int) (S : PS) (v : Int) (h1 : PM) : Prop := Ev d mX12_find (2, [some (vR (some (22, 0, a0))), some (vI x1), some (vI x2), some (vI x3)], [], (I, S)) (.inl (some (vI v)), h1)
theorem w_X12_find_0 {d : Nat} {I : Nat → Nat → Int} {S : PS} {x1 x2 : Int} {v : Int} {h1 : PM} (hl0 : LyX12 S)
    (k1 : L_X12_find_2 d 156 x1 x2 0 I S v h1) : Ca d mX12_find [vR (some (22, 0, 156)), vI x1, vI x2] (I, S) (.inl (some (vI v))) h1 :=
  Ca.of rfl rfl (
  b_X12_find_0  (k1))
theorem w_X12_find_2 {d : Nat} {I : Nat → Nat → Int} {S : PS} {x1 x2 x3 : Int} {v : Int} {h1 : PM} (hl0 : LyX12 S)
    (k10 : (x3 < I 167 x1.toNat) → (I 168 ((96 * x1) + x3).toNat ≠ x2) → L_X12_find_2 d 156 x1 x2 (x3 + 1) I S v h1)
    (k11 : (I 167 x1.toNat ≤ x3) → (-1) = v)
    (h12 : (I 167 x1.toNat ≤ x3) → (I, S) = h1 := by intros; rfl)
    (k13 : (x3 < I 167 x1.toNat) → (I 168 ((96 * x1) + x3).toNat = x2) → x3 = v)
    (h14 : (x3 < I 167 x1.toNat) → (I 168 ((96 * x1) + x3).toNat = x2) → (I, S) = h1 := by intros; rfl)
    (v1 : 0 ≤ x1 ∧ x1 < (4 : Nat) := by intros; first | assumption | omega | (split <;> omega))
    (v4 : (x3 < I 167 x1.toNat) → -2147483648 ≤ 96 * x1 ∧ 96 * x1 ≤ 2147483647 := by intros; first | assumption | omega | (split <;> omega))
    (v5 : (x3 < I 167 x1.toNat) → -2147483648 ≤ (96 * x1) + x3 ∧ (96 * x1) + x3 ≤ 2147483647 := by intros; first | assumption | omega | (split <;> omega))
    (v6 : (x3 < I 167 x1.toNat) → 0 ≤ (96 * x1) + x3 ∧ (96 * x1) + x3 < (384 : Nat) := by intros; first | assumption | omega | (split <;> omega))
    (v9 : (x3 < I 167 x1.toNat) → (I 168 ((96 * x1) + x3).toNat ≠ x2) → -2147483648 ≤ x3 + 1 ∧ x3 + 1 ≤ 2147483647 := by intros; first | assumption | omega | (split <;> omega)) : L_X12_find_2 d 156 x1 x2 x3 I S v h1 :=
  
  b_X12_find_2 (ly_X12_27 hl0) v1 (fun (c2 : I 167 x1.toNat ≤ x3) => ev_ret2 (k11 c2) (h12 c2) (b_X12_find_35 )) (fun (c3 : x3 < I 167 x1.toNat) => 
    b_X12_find_12 (ly_X12_28 hl0) (v4 c3) (v5 c3) (v6 c3) (fun (c7 : I 168 ((96 * x1) + x3).toNat ≠ x2) => 
      b_X12_find_29 (v9 c3 c7) ((k10 c3 c7))) (fun (c8 : I 168 ((96 * x1) + x3).toNat = x2) => ev_ret2 (k13 c3 c8) (h14 c3 c8) (b_X12_find_27 )))
abbrev L_X12_sumOf_5 (d : Nat) (a0 : Nat) (n1 : Nat) (a1 : Nat) (x2 : Int) (x3 : Int) (x4 : Int) (I : Nat → Nat → Int) (S : PS) (v : Int) (h1 : PM) : Prop := Ev d mX12_sumOf (5, [some (vR (some (22, 0, a0))), some (vR (some (0, n1, a1))), some (vI x2), some (vI x3), some (vI x4)], [], (I, S)) (.inl (some (vI v)), h1)
theorem w_X12_sumOf_0 {d : Nat} {I : Nat → Nat → Int} {S : PS} {n1 a1 : Nat} {x2 : Int} {v : Int} {h1 : PM} (hl0 : LyX12 S)
    (k1 : L_X12_sumOf_5 d 156 n1 a1 x2 0 0 I S v h1) : Ca d mX12_sumOf [vR (some (22, 0, 156)), vR (some (0, n1, a1)), vI x2] (I, S) (.inl (some (vI v))) h1 :=
  Ca.of rfl rfl (
  b_X12_sumOf_0  (k1))
theorem w_X12_sumOf_5 {d : Nat} {I : Nat → Nat → Int} {S : PS} {n1 a1 : Nat} {x2 x3 x4 : Int} {v : Int} {h1 : PM} (hl0 : LyX12 S)
    (k9 : (x4 < I 167 x2.toNat) → L_X12_sumOf_5 d 156 n1 a1 x2 (x3 + (I a1 ((96 * x2) + x4).toNat)) (x4 + 1) I S v h1)
    (k10 : (I 167 x2.toNat ≤ x4) → x3 = v)
    (h11 : (I 167 x2.toNat ≤ x4) → (I, S) = h1 := by intros; rfl)
    (v1 : 0 ≤ x2 ∧ x2 < (4 : Nat) := by intros; first | assumption | omega | (split <;> omega))
    (v4 : (x4 < I 167 x2.toNat) → -2147483648 ≤ 96 * x2 ∧ 96 * x2 ≤ 2147483647 := by intros; first | assumption | omega | (split <;> omega))
    (v5 : (x4 < I 167 x2.toNat) → -2147483648 ≤ (96 * x2) + x4 ∧ (96 * x2) + x4 ≤ 2147483647 := by intros; first | assumption | omega | (split <;> omega))
    (v6 : (x4 < I 167 x2.toNat) → 0 ≤ (96 * x2) + x4 ∧ (96 * x2) + x4 < (n1 : Nat) := by intros; first | assumption | omega | (split <;> omega))
    (v7 : (x4 < I 167 x2.toNat) → -2147483648 ≤ x3 + (I a1 ((96 * x2) + x4).toNat) ∧ x3 + (I a1 ((96 * x2) + x4).toNat) ≤ 2147483647 := by intros; first | assumption | omega | (split <;> omega))
    (v8 : (x4 < I 167 x2.toNat) → -2147483648 ≤ x4 + 1 ∧ x4 + 1 ≤ 2147483647 := by intros; first | assumption | omega | (split <;> omega)) : L_X12_sumOf_5 d 156 n1 a1 x2 x3 x4 I S v h1 :=
  
  b_X12_sumOf_5 (ly_X12_27 hl0) v1 (fun (c2 : I 167 x2.toNat ≤ x4) => ev_ret2 (k10 c2) (h11 c2) (b_X12_sumOf_34 )) (fun (c3 : x4 < I 167 x2.toNat) => 
    b_X12_sumOf_16 (v4 c3) (v5 c3) (v6 c3) (v7 c3) (v8 c3) ((k9 c3)))
abbrev L_X12_badOnes_4 (d : Nat) (a0 : Nat) (x1 : Int) (x2 : Int) (x3 : Int) (I : Nat → Nat → Int) (S : PS) (v : Int) (h1 : PM) : Prop := Ev d mX12_badOnes (4, [some (vR (some (22, 0, a0))), some (vI x1), some (vI x2), some (vI x3)], [], (I, S)) (.inl (some (vI v)), h1)
theorem w_X12_badOnes_0 {d : Nat} {I : Nat → Nat → Int} {S : PS} {x1 : Int} {v : Int} {h1 : PM} (hl0 : LyX12 S)
    (k1 : L_X12_badOnes_4 d 156 x1 0 0 I S v h1) : Ca d mX12_badOnes [vR (some (22, 0, 156)), vI x1] (I, S) (.inl (some (vI v))) h1 :=
  Ca.of rfl rfl (
  b_X12_badOnes_0  (k1))
theorem w_X12_badOnes_4 {d : Nat} {I : Nat → Nat → Int} {S : PS} {x1 x2 x3 : Int} {v : Int} {h1 : PM} (hl0 : LyX12 S)
    (k12 : (x3 < I 167 x1.toNat) → L_X12_badOnes_4 d 156 x1 (x2 + (if I 171 ((96 * x1) + x3).toNat = (-1) then 1 else 0)) (x3 + 1) I S v h1)
    (k13 : (I 167 x1.toNat ≤ x3) → x2 = v)
    (h14 : (I 167 x1.toNat ≤ x3) → (I, S) = h1 := by intros; rfl)
    (v1 : 0 ≤ x1 ∧ x1 < (4 : Nat) := by intros; first | assumption | omega | (split <;> omega))
    (v4 : (x3 < I 167 x1.toNat) → -2147483648 ≤ 96 * x1 ∧ 96 * x1 ≤ 2147483647 := by intros; first | assumption | omega | (split <;> omega))
    (v5 : (x3 < I 167 x1.toNat) → -2147483648 ≤ (96 * x1) + x3 ∧ (96 * x1) + x3 ≤ 2147483647 := by intros; first | assumption | omega | (split <;> omega))
    (v6 : (x3 < I 167 x1.toNat) → 0 ≤ (96 * x1) + x3 ∧ (96 * x1) + x3 < (384 : Nat) := by intros; first | assumption | omega | (split <;> omega))
    (v10 : (x3 < I 167 x1.toNat) → -2147483648 ≤ x2 + (if I 171 ((96 * x1) + x3).toNat = (-1) then 1 else 0) ∧ x2 + (if I 171 ((96 * x1) + x3).toNat = (-1) then 1 else 0) ≤ 2147483647 := by intros; first | assumption | omega | (split <;> omega))
    (v11 : (x3 < I 167 x1.toNat) → -2147483648 ≤ x3 + 1 ∧ x3 + 1 ≤ 2147483647 := by intros; first | assumption | omega | (split <;> omega)) : L_X12_badOnes_4 d 156 x1 x2 x3 I S v h1 :=
  
  b_X12_badOnes_4 (ly_X12_27 hl0) v1 (fun (c2 : I 167 x1.toNat ≤ x3) => ev_ret2 (k13 c2) (h14 c2) (b_X12_badOnes_43 )) (fun (c3 : x3 < I 167 x1.toNat) => 
    have K8 : ∀ us1 : Int, us1 = (if I 171 ((96 * x1) + x3).toNat = (-1) then 1 else 0) → Ev d mX12_badOnes (35, [some (vR (some (22, 0, 156))), some (vI x1), some (vI x2), some (vI x3)], [vI us1, vI x2], (I, S)) (.inl (some (vI v)), h1) := fun us1 e_us1 => by subst e_us1; exact (
      b_X12_badOnes_35 (v10 c3) (v11 c3) ((k12 c3)))
    
    b_X12_badOnes_14 (ly_X12_31 hl0) (v4 c3) (v5 c3) (v6 c3) (fun (c7 : I 171 ((96 * x1) + x3).toNat ≠ (-1)) => 
      b_X12_badOnes_34  (K8 0 (if_neg c7).symm)) (fun (c8 : I 171 ((96 * x1) + x3).toNat = (-1)) => 
      b_X12_badOnes_30  (K8 1 (if_pos c8).symm)))
abbrev L_X12_rounds_4 (d : Nat) (a0 : Nat) (x1 : Int) (x2 : Int) (x3 : Int) (I : Nat → Nat → Int) (S : PS) (v : Int) (h1 : PM) : Prop := Ev d mX12_rounds (4, [some (vR (some (22, 0, a0))), some (vI x1), some (vI x2), some (vI x3)], [], (I, S)) (.inl (some (vI v)), h1)
theorem w_X12_rounds_0 {d : Nat} {I : Nat → Nat → Int} {S : PS} {x1 : Int} {v : Int} {h1 : PM} (hl0 : LyX12 S)
    (k1 : L_X12_rounds_4 d 156 x1 0 0 I S v h1) : Ca d mX12_rounds [vR (some (22, 0, 156)), vI x1] (I, S) (.inl (some (vI v))) h1 :=
  Ca.of rfl rfl (
  b_X12_rounds_0  (k1))
theorem w_X12_rounds_4 {d : Nat} {I : Nat → Nat → Int} {S : PS} {x1 x2 x3 : Int} {v : Int} {h1 : PM} (hl0 : LyX12 S)
    (k11 : (x3 < I 167 x1.toNat) → L_X12_rounds_4 d 156 x1 (if I 171 ((96 * x1) + x3).toNat ≤ x2 then (x2 : Int) else I 171 ((96 * x1) + x3).toNat) (x3 + 1) I S v h1)
    (k12 : (I 167 x1.toNat ≤ x3) → x2 = v)
    (h13 : (I 167 x1.toNat ≤ x3) → (I, S) = h1 := by intros; rfl)
    (v1 : 0 ≤ x1 ∧ x1 < (4 : Nat) := by intros; first | assumption | omega | (split <;> omega))
    (v4 : (x3 < I 167 x1.toNat) → -2147483648 ≤ 96 * x1 ∧ 96 * x1 ≤ 2147483647 := by intros; first | assumption | omega | (split <;> omega))
    (v5 : (x3 < I 167 x1.toNat) → -2147483648 ≤ (96 * x1) + x3 ∧ (96 * x1) + x3 ≤ 2147483647 := by intros; first | assumption | omega | (split <;> omega))
    (v6 : (x3 < I 167 x1.toNat) → 0 ≤ (96 * x1) + x3 ∧ (96 * x1) + x3 < (384 : Nat) := by intros; first | assumption | omega | (split <;> omega))
    (v10 : (x3 < I 167 x1.toNat) → -2147483648 ≤ x3 + 1 ∧ x3 + 1 ≤ 2147483647 := by intros; first | assumption | omega | (split <;> omega)) : L_X12_rounds_4 d 156 x1 x2 x3 I S v h1 :=
  
  b_X12_rounds_4 (ly_X12_27 hl0) v1 (fun (c2 : I 167 x1.toNat ≤ x3) => ev_ret2 (k12 c2) (h13 c2) (b_X12_rounds_51 )) (fun (c3 : x3 < I 167 x1.toNat) => 
    have K8 : ∀ us0 : Int, us0 = (if I 171 ((96 * x1) + x3).toNat ≤ x2 then (x2 : Int) else I 171 ((96 * x1) + x3).toNat) → Ev d mX12_rounds (44, [some (vR (some (22, 0, 156))), some (vI x1), some (vI x2), some (vI x3)], [vI us0], (I, S)) (.inl (some (vI v)), h1) := fun us0 e_us0 => by subst e_us0; exact (
      b_X12_rounds_44 (v10 c3) ((k11 c3)))
    
    b_X12_rounds_14 (ly_X12_31 hl0) (v4 c3) (v5 c3) (v6 c3) (fun (c7 : I 171 ((96 * x1) + x3).toNat ≤ x2) => 
      b_X12_rounds_43  (K8 x2 ((if_pos c7).symm))) (fun (c8 : x2 < I 171 ((96 * x1) + x3).toNat) => 
      b_X12_rounds_29 (ly_X12_31 hl0) (v4 c3) (v5 c3) (v6 c3) (K8 (I 171 ((96 * x1) + x3).toNat) ((if_neg (Int.not_le.mpr c8)).symm))))
abbrev L_X12_isProper_2 (d : Nat) (a0 : Nat) (x1 : Int) (x2 : Int) (x3 : Int) (I : Nat → Nat → Int) (S : PS) (v : Int) (h1 : PM) : Prop := Ev (d + 2) mX12_isProper (2, [some (vR (some (22, 0, a0))), some (vI x1), some (vI x2), some (vI x3)], [], (I, S)) (.inl (some (vI v)), h1)
theorem w_X12_isProper_0 {d : Nat} {I : Nat → Nat → Int} {S : PS} {x1 x2 : Int} {v : Int} {h1 : PM} (hl0 : LyX12 S)
    (k1 : L_X12_isProper_2 d 156 x1 x2 0 I S v h1) : Ca (d + 2) mX12_isProper [vR (some (22, 0, 156)), vI x1, vI x2] (I, S) (.inl (some (vI v))) h1 :=
  Ca.of rfl rfl (
  b_X12_isProper_0  (k1))
theorem w_X12_isProper_2 {d : Nat} {I : Nat → Nat → Int} {S : PS} {x1 x2 x3 : Int} {v : Int} {h1 : PM} (hl0 : LyX12 S)
    (k15 : (x3 < I 159 ((20 * x1) + 9).toNat) → (p_and (p_shr x2 (2 * (((I 159 ((20 * x1) + 9).toNat) - 1) - x3))) 3 ≠ p_and (p_shr x2 (2 * (((I 159 ((20 * x1) + 9).toNat) - 1) - ((x3 + 1) % (I 159 ((20 * x1) + 9).toNat))))) 3) → L_X12_isProper_2 d 156 x1 x2 (x3 + 1) I S v h1)
    (k16 : (I 159 ((20 * x1) + 9).toNat ≤ x3) → 1 = v)
    (h17 : (I 159 ((20 * x1) + 9).toNat ≤ x3) → (I, S) = h1 := by intros; rfl)
    (k18 : (x3 < I 159 ((20 * x1) + 9).toNat) → (p_and (p_shr x2 (2 * (((I 159 ((20 * x1) + 9).toNat) - 1) - x3))) 3 = p_and (p_shr x2 (2 * (((I 159 ((20 * x1) + 9).toNat) - 1) - ((x3 + 1) % (I 159 ((20 * x1) + 9).toNat))))) 3) → 0 = v)
    (h19 : (x3 < I 159 ((20 * x1) + 9).toNat) → (p_and (p_shr x2 (2 * (((I 159 ((20 * x1) + 9).toNat) - 1) - x3))) 3 = p_and (p_shr x2 (2 * (((I 159 ((20 * x1) + 9).toNat) - 1) - ((x3 + 1) % (I 159 ((20 * x1) + 9).toNat))))) 3) → (I, S) = h1 := by intros; rfl)
    (v1 : -2147483648 ≤ 20 * x1 ∧ 20 * x1 ≤ 2147483647 := by intros; first | assumption | omega | (split <;> omega))
    (v2 : -2147483648 ≤ (20 * x1) + 9 ∧ (20 * x1) + 9 ≤ 2147483647 := by intros; first | assumption | omega | (split <;> omega))
    (v3 : 0 ≤ (20 * x1) + 9 ∧ (20 * x1) + 9 < (80 : Nat) := by intros; first | assumption | omega | (split <;> omega))
    (v6 : (x3 < I 159 ((20 * x1) + 9).toNat) → -2147483648 ≤ (I 159 ((20 * x1) + 9).toNat) - 1 ∧ (I 159 ((20 * x1) + 9).toNat) - 1 ≤ 2147483647 := by intros; first | assumption | omega | (split <;> omega))
    (v7 : (x3 < I 159 ((20 * x1) + 9).toNat) → -2147483648 ≤ ((I 159 ((20 * x1) + 9).toNat) - 1) - x3 ∧ ((I 159 ((20 * x1) + 9).toNat) - 1) - x3 ≤ 2147483647 := by intros; first | assumption | omega | (split <;> omega))
    (v8 : (x3 < I 159 ((20 * x1) + 9).toNat) → -2147483648 ≤ 2 * (((I 159 ((20 * x1) + 9).toNat) - 1) - x3) ∧ 2 * (((I 159 ((20 * x1) + 9).toNat) - 1) - x3) ≤ 2147483647 := by intros; first | assumption | omega | (split <;> omega))
    (v9 : (x3 < I 159 ((20 * x1) + 9).toNat) → -2147483648 ≤ x3 + 1 ∧ x3 + 1 ≤ 2147483647 := by intros; first | assumption | omega | (split <;> omega))
    (v10 : (x3 < I 159 ((20 * x1) + 9).toNat) → (0 ≤ x3 + 1 ∧ x3 + 1 ≤ 2147483647) ∧ 0 < I 159 ((20 * x1) + 9).toNat ∧ I 159 ((20 * x1) + 9).toNat ≤ 2147483647 := by intros; first | assumption | omega | (split <;> omega))
    (v11 : (x3 < I 159 ((20 * x1) + 9).toNat) → -2147483648 ≤ ((I 159 ((20 * x1) + 9).toNat) - 1) - ((x3 + 1) % (I 159 ((20 * x1) + 9).toNat)) ∧ ((I 159 ((20 * x1) + 9).toNat) - 1) - ((x3 + 1) % (I 159 ((20 * x1) + 9).toNat)) ≤ 2147483647 := by intros; first | assumption | omega | (split <;> omega))
    (v12 : (x3 < I 159 ((20 * x1) + 9).toNat) → -2147483648 ≤ 2 * (((I 159 ((20 * x1) + 9).toNat) - 1) - ((x3 + 1) % (I 159 ((20 * x1) + 9).toNat))) ∧ 2 * (((I 159 ((20 * x1) + 9).toNat) - 1) - ((x3 + 1) % (I 159 ((20 * x1) + 9).toNat))) ≤ 2147483647 := by intros; first | assumption | omega | (split <;> omega)) : L_X12_isProper_2 d 156 x1 x2 x3 I S v h1 :=
  
  b_X12_isProper_2  (c_X12_ring hl0 v1 v2 v3) (
  b_X12_isProper_8  (fun (c4 : I 159 ((20 * x1) + 9).toNat ≤ x3) => ev_ret2 (k16 c4) (h17 c4) (b_X12_isProper_44 )) (fun (c5 : x3 < I 159 ((20 * x1) + 9).toNat) => 
    b_X12_isProper_11  (c_X12_colourAt hl0 v1 v2 v3 (v6 c5) (v7 c5) (v8 c5)) (
    b_X12_isProper_18 (v9 c5) (c_X12_ring hl0 v1 v2 v3) (
    b_X12_isProper_29 (v10 c5) (c_X12_colourAt hl0 v1 v2 v3 (v6 c5) (v11 c5) (v12 c5)) (
    b_X12_isProper_33  (fun (c13 : p_and (p_shr x2 (2 * (((I 159 ((20 * x1) + 9).toNat) - 1) - x3))) 3 ≠ p_and (p_shr x2 (2 * (((I 159 ((20 * x1) + 9).toNat) - 1) - ((x3 + 1) % (I 159 ((20 * x1) + 9).toNat))))) 3) => 
      b_X12_isProper_38 (v9 c5) ((k15 c5 c13))) (fun (c14 : p_and (p_shr x2 (2 * (((I 159 ((20 * x1) + 9).toNat) - 1) - x3))) 3 = p_and (p_shr x2 (2 * (((I 159 ((20 * x1) + 9).toNat) - 1) - ((x3 + 1) % (I 159 ((20 * x1) + 9).toNat))))) 3) => ev_ret2 (k18 c5 c14) (h19 c5 c14) (b_X12_isProper_36 )))))))
abbrev L_X12_named0_8 (d : Nat) (a0 : Nat) (x1 : Int) (x2 : Int) (x3 : Int) (x4 : Int) (x5 : Int) (I : Nat → Nat → Int) (S : PS) (v : Int) (h1 : PM) : Prop := Ev (d + 2) mX12_named0 (8, [some (vR (some (22, 0, a0))), some (vI x1), some (vI x2), some (vI x3), some (vI x4), some (vI x5), none], [], (I, S)) (.inl (some (vI v)), h1)
abbrev L_X12_named0_31 (d : Nat) (a0 : Nat) (x1 : Int) (x2 : Int) (x3 : Int) (x4 : Int) (x5 : Int) (I : Nat → Nat → Int) (S : PS) (v : Int) (h1 : PM) : Prop := Ev (d + 2) mX12_named0 (31, [some (vR (some (22, 0, a0))), some (vI x1), some (vI x2), some (vI x3), some (vI x4), some (vI x5), none], [], (I, S)) (.inl (some (vI v)), h1)
theorem w_X12_named0_0 {d : Nat} {I : Nat → Nat → Int} {S : PS} {x1 x2 : Int} {v : Int} {h1 : PM} (hl0 : LyX12 S)
    (k1 : L_X12_named0_8 d 156 x1 x2 0 0 0 I S v h1) : Ca (d + 2) mX12_named0 [vR (some (22, 0, 156)), vI x1, vI x2] (I, S) (.inl (some (vI v))) h1 :=
  Ca.of rfl rfl (
  b_X12_named0_0  (k1))
theorem w_X12_named0_8 {d : Nat} {I : Nat → Nat → Int} {S : PS} {x1 x2 x3 x4 x5 : Int} {v : Int} {h1 : PM} (hl0 : LyX12 S)
    (k3 : (4 ≤ x5) → L_X12_named0_31 d 156 x1 x2 x3 x4 0 I S v h1)
    (k6 : (x5 < 4) → L_X12_named0_8 d 156 x1 x2 x3 x4 (x5 + 1) (up2 I 174 (x5.toNat) (-1)) S v h1)
    (v4 : (x5 < 4) → 0 ≤ x5 ∧ x5 < (4 : Nat) := by intros; first | assumption | omega | (split <;> omega))
    (v5 : (x5 < 4) → -2147483648 ≤ x5 + 1 ∧ x5 + 1 ≤ 2147483647 := by intros; first | assumption | omega | (split <;> omega)) : L_X12_named0_8 d 156 x1 x2 x3 x4 x5 I S v h1 :=
  
  b_X12_named0_8  (fun (c1 : 4 ≤ x5) => 
    b_X12_named0_28  ((k3 c1))) (fun (c2 : x5 < 4) => 
    b_X12_named0_14 (ly_X12_34 hl0) (v4 c2) (v5 c2) ((k6 c2)))
theorem w_X12_named0_31 {d : Nat} {I : Nat → Nat → Int} {S : PS} {x1 x2 x3 x4 x5 : Int} {v : Int} {h1 : PM} (hl0 : LyX12 S)
    (k13 : (x5 < I 159 ((20 * x1) + 9).toNat) → (I 174 (p_and (p_shr x2 (2 * (((I 159 ((20 * x1) + 9).toNat) - 1) - x5))) 3).toNat ≠ (-1)) → L_X12_named0_31 d 156 x1 x2 (p_or (p_shl x3 2) (I 174 (p_and (p_shr x2 (2 * (((I 159 ((20 * x1) + 9).toNat) - 1) - x5))) 3).toNat)) x4 (x5 + 1) I S v h1)
    (k16 : (x5 < I 159 ((20 * x1) + 9).toNat) → (I 174 (p_and (p_shr x2 (2 * (((I 159 ((20 * x1) + 9).toNat) - 1) - x5))) 3).toNat = (-1)) → L_X12_named0_31 d 156 x1 x2 (p_or (p_shl x3 2) ((up2 I 174 ((p_and (p_shr x2 (2 * (((I 159 ((20 * x1) + 9).toNat) - 1) - x5))) 3).toNat) x4) 174 (p_and (p_shr x2 (2 * (((I 159 ((20 * x1) + 9).toNat) - 1) - x5))) 3).toNat)) (x4 + 1) (x5 + 1) (up2 I 174 ((p_and (p_shr x2 (2 * (((I 159 ((20 * x1) + 9).toNat) - 1) - x5))) 3).toNat) x4) S v h1)
    (k17 : (I 159 ((20 * x1) + 9).toNat ≤ x5) → x3 = v)
    (h18 : (I 159 ((20 * x1) + 9).toNat ≤ x5) → (I, S) = h1 := by intros; rfl)
    (v1 : -2147483648 ≤ 20 * x1 ∧ 20 * x1 ≤ 2147483647 := by intros; first | assumption | omega | (split <;> omega))
    (v2 : -2147483648 ≤ (20 * x1) + 9 ∧ (20 * x1) + 9 ≤ 2147483647 := by intros; first | assumption | omega | (split <;> omega))
    (v3 : 0 ≤ (20 * x1) + 9 ∧ (20 * x1) + 9 < (80 : Nat) := by intros; first | assumption | omega | (split <;> omega))
    (v6 : (x5 < I 159 ((20 * x1) + 9).toNat) → -2147483648 ≤ (I 159 ((20 * x1) + 9).toNat) - 1 ∧ (I 159 ((20 * x1) + 9).toNat) - 1 ≤ 2147483647 := by intros; first | assumption | omega | (split <;> omega))
    (v7 : (x5 < I 159 ((20 * x1) + 9).toNat) → -2147483648 ≤ ((I 159 ((20 * x1) + 9).toNat) - 1) - x5 ∧ ((I 159 ((20 * x1) + 9).toNat) - 1) - x5 ≤ 2147483647 := by intros; first | assumption | omega | (split <;> omega))
    (v8 : (x5 < I 159 ((20 * x1) + 9).toNat) → -2147483648 ≤ 2 * (((I 159 ((20 * x1) + 9).toNat) - 1) - x5) ∧ 2 * (((I 159 ((20 * x1) + 9).toNat) - 1) - x5) ≤ 2147483647 := by intros; first | assumption | omega | (split <;> omega))
    (v9 : (x5 < I 159 ((20 * x1) + 9).toNat) → 0 ≤ p_and (p_shr x2 (2 * (((I 159 ((20 * x1) + 9).toNat) - 1) - x5))) 3 ∧ p_and (p_shr x2 (2 * (((I 159 ((20 * x1) + 9).toNat) - 1) - x5))) 3 < (4 : Nat) := by intros; first | assumption | omega | (split <;> omega))
    (v12 : (x5 < I 159 ((20 * x1) + 9).toNat) → (I 174 (p_and (p_shr x2 (2 * (((I 159 ((20 * x1) + 9).toNat) - 1) - x5))) 3).toNat ≠ (-1)) → -2147483648 ≤ x5 + 1 ∧ x5 + 1 ≤ 2147483647 := by intros; first | assumption | omega | (split <;> omega))
    (v14 : (x5 < I 159 ((20 * x1) + 9).toNat) → (I 174 (p_and (p_shr x2 (2 * (((I 159 ((20 * x1) + 9).toNat) - 1) - x5))) 3).toNat = (-1)) → -2147483648 ≤ x4 + 1 ∧ x4 + 1 ≤ 2147483647 := by intros; first | assumption | omega | (split <;> omega))
    (v15 : (x5 < I 159 ((20 * x1) + 9).toNat) → (I 174 (p_and (p_shr x2 (2 * (((I 159 ((20 * x1) + 9).toNat) - 1) - x5))) 3).toNat = (-1)) → -2147483648 ≤ x5 + 1 ∧ x5 + 1 ≤ 2147483647 := by intros; first | assumption | omega | (split <;> omega)) : L_X12_named0_31 d 156 x1 x2 x3 x4 x5 I S v h1 :=
  
  b_X12_named0_31  (c_X12_ring hl0 v1 v2 v3) (
  b_X12_named0_38  (fun (c4 : I 159 ((20 * x1) + 9).toNat ≤ x5) => ev_ret2 (k17 c4) (h18 c4) (b_X12_named0_92 )) (fun (c5 : x5 < I 159 ((20 * x1) + 9).toNat) => 
    b_X12_named0_41  (c_X12_colourAt hl0 v1 v2 v3 (v6 c5) (v7 c5) (v8 c5)) (
    b_X12_named0_49 (ly_X12_34 hl0) (v9 c5) (fun (c10 : I 174 (p_and (p_shr x2 (2 * (((I 159 ((20 * x1) + 9).toNat) - 1) - x5))) 3).toNat ≠ (-1)) => 
      b_X12_named0_74 (ly_X12_34 hl0) (v9 c5) (v12 c5 c10) ((k13 c5 c10))) (fun (c11 : I 174 (p_and (p_shr x2 (2 * (((I 159 ((20 * x1) + 9).toNat) - 1) - x5))) 3).toNat = (-1)) => 
      b_X12_named0_62 (ly_X12_34 hl0) (v9 c5) (v14 c5 c11) (
      b_X12_named0_74 (ly_X12_34 hl0) (v9 c5) (v15 c5 c11) ((k16 c5 c11)))))))
abbrev L_X12_laysNear_2 (d : Nat) (a0 : Nat) (x1 : Int) (x2 : Int) (I : Nat → Nat → Int) (S : PS) (h1 : PM) : Prop := Ev (d + 1) mX12_laysNear (2, [some (vR (some (22, 0, a0))), some (vI x1), some (vI x2)], [], (I, S)) (.inl none, h1)
theorem w_X12_laysNear_0 {d : Nat} {I : Nat → Nat → Int} {S : PS} {x1 : Int} {h1 : PM} (hl0 : LyX12 S)
    (k1 : L_X12_laysNear_2 d 156 x1 0 I S h1) : Ca (d + 1) mX12_laysNear [vR (some (22, 0, 156)), vI x1] (I, S) (.inl none) h1 :=
  Ca.of rfl rfl (
  b_X12_laysNear_0  (k1))
theorem w_X12_laysNear_2 {d : Nat} {I : Nat → Nat → Int} {S : PS} {x1 x2 : Int} {h1 : PM} (hl0 : LyX12 S)
    (k12 : (x2 < I 161 (10 * x1).toNat) → L_X12_laysNear_2 d 156 x1 (x2 + 1) (up2 I 177 (x2.toNat) (I 161 (10 * (I 161 (((10 * x1) + 1) + x2).toNat)).toNat)) S h1)
    (h13 : (I 161 (10 * x1).toNat ≤ x2) → (I, S) = h1 := by intros; rfl)
    (v1 : -2147483648 ≤ 10 * x1 ∧ 10 * x1 ≤ 2147483647 := by intros; first | assumption | omega | (split <;> omega))
    (v2 : 0 ≤ 10 * x1 ∧ 10 * x1 < (120 : Nat) := by intros; first | assumption | omega | (split <;> omega))
    (v5 : (x2 < I 161 (10 * x1).toNat) → -2147483648 ≤ (10 * x1) + 1 ∧ (10 * x1) + 1 ≤ 2147483647 := by intros; first | assumption | omega | (split <;> omega))
    (v6 : (x2 < I 161 (10 * x1).toNat) → -2147483648 ≤ ((10 * x1) + 1) + x2 ∧ ((10 * x1) + 1) + x2 ≤ 2147483647 := by intros; first | assumption | omega | (split <;> omega))
    (v7 : (x2 < I 161 (10 * x1).toNat) → 0 ≤ ((10 * x1) + 1) + x2 ∧ ((10 * x1) + 1) + x2 < (120 : Nat) := by intros; first | assumption | omega | (split <;> omega))
    (v8 : (x2 < I 161 (10 * x1).toNat) → -2147483648 ≤ 10 * (I 161 (((10 * x1) + 1) + x2).toNat) ∧ 10 * (I 161 (((10 * x1) + 1) + x2).toNat) ≤ 2147483647 := by intros; first | assumption | omega | (split <;> omega))
    (v9 : (x2 < I 161 (10 * x1).toNat) → 0 ≤ 10 * (I 161 (((10 * x1) + 1) + x2).toNat) ∧ 10 * (I 161 (((10 * x1) + 1) + x2).toNat) < (120 : Nat) := by intros; first | assumption | omega | (split <;> omega))
    (v10 : (x2 < I 161 (10 * x1).toNat) → 0 ≤ x2 ∧ x2 < (9 : Nat) := by intros; first | assumption | omega | (split <;> omega))
    (v11 : (x2 < I 161 (10 * x1).toNat) → -2147483648 ≤ x2 + 1 ∧ x2 + 1 ≤ 2147483647 := by intros; first | assumption | omega | (split <;> omega)) : L_X12_laysNear_2 d 156 x1 x2 I S h1 :=
  
  b_X12_laysNear_2  (c_X12_degree hl0 v1 v2) (
  b_X12_laysNear_8  (fun (c3 : I 161 (10 * x1).toNat ≤ x2) => ev_retV (h13 c3) (b_X12_laysNear_40 )) (fun (c4 : x2 < I 161 (10 * x1).toNat) => 
    b_X12_laysNear_11 (ly_X12_38 hl0) (ly_X12_21 hl0) v1 (v5 c4) (v6 c4) (v7 c4) (c_X12_degree hl0 (v8 c4) (v9 c4)) (
    b_X12_laysNear_33 (v10 c4) (v11 c4) ((k12 c4)))))
abbrev L_X12_keeps_12 (d : Nat) (a0 : Nat) (x1 : Int) (I : Nat → Nat → Int) (S : PS) (h1 : PM) : Prop := Ev d mX12_keeps (12, [some (vR (some (22, 0, a0))), some (vI x1)], [], (I, S)) (.inl none, h1)
abbrev L_X12_keeps_52 (d : Nat) (a0 : Nat) (x1 : Int) (I : Nat → Nat → Int) (S : PS) (h1 : PM) : Prop := Ev d mX12_keeps (52, [some (vR (some (22, 0, a0))), some (vI x1)], [], (I, S)) (.inl none, h1)
theorem w_X12_keeps_0 {d : Nat} {I : Nat → Nat → Int} {S : PS} {h1 : PM} (hl0 : LyX12 S)
    (k3 : (I 156 41 ≠ 30) → L_X12_keeps_52 d 156 0 I S h1)
    (k4 : (I 156 41 = 30) → L_X12_keeps_12 d 156 18 I S h1) : Ca d mX12_keeps [vR (some (22, 0, 156))] (I, S) (.inl none) h1 :=
  Ca.of rfl rfl (
  b_X12_keeps_0  (fun (c1 : I 156 41 ≠ 30) => 
    b_X12_keeps_50  ((k3 c1))) (fun (c2 : I 156 41 = 30) => 
    b_X12_keeps_9  ((k4 c2))))
theorem w_X12_keeps_12 {d : Nat} {I : Nat → Nat → Int} {S : PS} {x1 : Int} {h1 : PM} (hl0 : LyX12 S)
    (k4 : (540 ≤ x1) → L_X12_keeps_52 d 156 0 (up2 I 156 41 (I 156 41 - 1)) S h1)
    (k9 : (x1 < 540) → L_X12_keeps_12 d 156 (x1 + 1) (up2 I 179 ((x1 - 18).toNat) (I 179 x1.toNat)) S h1)
    (v3 : (540 ≤ x1) → -2147483648 ≤ I 156 41 - 1 ∧ I 156 41 - 1 ≤ 2147483647 := by intros; first | assumption | omega | (split <;> omega))
    (v5 : (x1 < 540) → -2147483648 ≤ x1 - 18 ∧ x1 - 18 ≤ 2147483647 := by intros; first | assumption | omega | (split <;> omega))
    (v6 : (x1 < 540) → 0 ≤ x1 ∧ x1 < (540 : Nat) := by intros; first | assumption | omega | (split <;> omega))
    (v7 : (x1 < 540) → 0 ≤ x1 - 18 ∧ x1 - 18 < (540 : Nat) := by intros; first | assumption | omega | (split <;> omega))
    (v8 : (x1 < 540) → -2147483648 ≤ x1 + 1 ∧ x1 + 1 ≤ 2147483647 := by intros; first | assumption | omega | (split <;> omega)) : L_X12_keeps_12 d 156 x1 I S h1 :=
  
  b_X12_keeps_12  (fun (c1 : 540 ≤ x1) => 
    b_X12_keeps_40 (v3 c1) (
    b_X12_keeps_50  ((k4 c1)))) (fun (c2 : x1 < 540) => 
    b_X12_keeps_19 (ly_X12_40 hl0) (v5 c2) (v6 c2) (v7 c2) (v8 c2) ((k9 c2)))
theorem w_X12_keeps_52 {d : Nat} {I : Nat → Nat → Int} {S : PS} {x1 : Int} {h1 : PM} (hl0 : LyX12 S)
    (k9 : (x1 < 18) → L_X12_keeps_52 d 156 (x1 + 1) (up2 I 179 (((18 * (I 156 41)) + x1).toNat) (I 178 x1.toNat)) S h1)
    (h10 : (18 ≤ x1) → ((up2 I 156 41 (I 156 41 + 1)), S) = h1 := by intros; rfl)
    (v3 : (18 ≤ x1) → -2147483648 ≤ I 156 41 + 1 ∧ I 156 41 + 1 ≤ 2147483647 := by intros; first | assumption | omega | (split <;> omega))
    (v4 : (x1 < 18) → -2147483648 ≤ 18 * (I 156 41) ∧ 18 * (I 156 41) ≤ 2147483647 := by intros; first | assumption | omega | (split <;> omega))
    (v5 : (x1 < 18) → -2147483648 ≤ (18 * (I 156 41)) + x1 ∧ (18 * (I 156 41)) + x1 ≤ 2147483647 := by intros; first | assumption | omega | (split <;> omega))
    (v6 : (x1 < 18) → 0 ≤ x1 ∧ x1 < (36 : Nat) := by intros; first | assumption | omega | (split <;> omega))
    (v7 : (x1 < 18) → 0 ≤ (18 * (I 156 41)) + x1 ∧ (18 * (I 156 41)) + x1 < (540 : Nat) := by intros; first | assumption | omega | (split <;> omega))
    (v8 : (x1 < 18) → -2147483648 ≤ x1 + 1 ∧ x1 + 1 ≤ 2147483647 := by intros; first | assumption | omega | (split <;> omega)) : L_X12_keeps_52 d 156 x1 I S h1 :=
  
  b_X12_keeps_52  (fun (c1 : 18 ≤ x1) => ev_retV (h10 c1) (b_X12_keeps_84 (v3 c1))) (fun (c2 : x1 < 18) => 
    b_X12_keeps_58 (ly_X12_40 hl0) (v4 c2) (v5 c2) (ly_X12_39 hl0) (v6 c2) (v7 c2) (v8 c2) ((k9 c2)))
abbrev L_X12_undo_26 (d : Nat) (a0 : Nat) (x1 : Int) (I : Nat → Nat → Int) (S : PS) (v : Int) (h1 : PM) : Prop := Ev d mX12_undo (26, [some (vR (some (22, 0, a0))), some (vI x1)], [], (I, S)) (.inl (some (vI v)), h1)
theorem w_X12_undo_0 {d : Nat} {I : Nat → Nat → Int} {S : PS} {v : Int} {h1 : PM} (hl0 : LyX12 S)
    (k4 : (I 156 41 ≠ 0) → L_X12_undo_26 d 156 0 (up2 (up2 I 156 0 0) 156 41 (I 156 41 - 1)) S v h1)
    (k5 : (I 156 41 = 0) → (-1) = v)
    (h6 : (I 156 41 = 0) → ((up2 I 156 0 0), S) = h1 := by intros; rfl)
    (v3 : (I 156 41 ≠ 0) → -2147483648 ≤ I 156 41 - 1 ∧ I 156 41 - 1 ≤ 2147483647 := by intros; first | assumption | omega | (split <;> omega)) : Ca d mX12_undo [vR (some (22, 0, 156))] (I, S) (.inl (some (vI v))) h1 :=
  Ca.of rfl rfl (
  b_X12_undo_0  (fun (c1 : I 156 41 ≠ 0) => 
    b_X12_undo_14 (v3 c1) ((k4 c1))) (fun (c2 : I 156 41 = 0) => ev_ret2 (k5 c2) (h6 c2) (b_X12_undo_12 )))
theorem w_X12_undo_26 {d : Nat} {I : Nat → Nat → Int} {S : PS} {x1 : Int} {v : Int} {h1 : PM} (hl0 : LyX12 S)
    (k8 : (x1 < 18) → L_X12_undo_26 d 156 (x1 + 1) (up2 I 178 (x1.toNat) (I 179 ((18 * (I 156 41)) + x1).toNat)) S v h1)
    (k9 : (18 ≤ x1) → I 156 41 = v)
    (h10 : (18 ≤ x1) → (I, S) = h1 := by intros; rfl)
    (v3 : (x1 < 18) → -2147483648 ≤ 18 * (I 156 41) ∧ 18 * (I 156 41) ≤ 2147483647 := by intros; first | assumption | omega | (split <;> omega))
    (v4 : (x1 < 18) → -2147483648 ≤ (18 * (I 156 41)) + x1 ∧ (18 * (I 156 41)) + x1 ≤ 2147483647 := by intros; first | assumption | omega | (split <;> omega))
    (v5 : (x1 < 18) → 0 ≤ (18 * (I 156 41)) + x1 ∧ (18 * (I 156 41)) + x1 < (540 : Nat) := by intros; first | assumption | omega | (split <;> omega))
    (v6 : (x1 < 18) → 0 ≤ x1 ∧ x1 < (36 : Nat) := by intros; first | assumption | omega | (split <;> omega))
    (v7 : (x1 < 18) → -2147483648 ≤ x1 + 1 ∧ x1 + 1 ≤ 2147483647 := by intros; first | assumption | omega | (split <;> omega)) : L_X12_undo_26 d 156 x1 I S v h1 :=
  
  b_X12_undo_26  (fun (c1 : 18 ≤ x1) => ev_ret2 (k9 c1) (h10 c1) (b_X12_undo_58 )) (fun (c2 : x1 < 18) => 
    b_X12_undo_32 (ly_X12_39 hl0) (ly_X12_40 hl0) (v3 c2) (v4 c2) (v5 c2) (v6 c2) (v7 c2) ((k8 c2)))
abbrev L_X12_nearPlace_2 (d : Nat) (n0 : Nat) (a0 : Nat) (x1 : Int) (x2 : Int) (x3 : Int) (I : Nat → Nat → Int) (S : PS) (v : Int) (h1 : PM) : Prop := Ev d mX12_nearPlace (2, [some (vR (some (0, n0, a0))), some (vI x1), some (vI x2), some (vI x3)], [], (I, S)) (.inl (some (vI v)), h1)
theorem w_X12_nearPlace_0 {d : Nat} {I : Nat → Nat → Int} {S : PS} {n0 a0 : Nat} {x1 x2 : Int} {v : Int} {h1 : PM}
    (k1 : L_X12_nearPlace_2 d n0 a0 x1 x2 0 I S v h1) : Ca d mX12_nearPlace [vR (some (0, n0, a0)), vI x1, vI x2] (I, S) (.inl (some (vI v))) h1 :=
  Ca.of rfl rfl (
  b_X12_nearPlace_0  (k1))
theorem w_X12_nearPlace_2 {d : Nat} {I : Nat → Nat → Int} {S : PS} {n0 a0 : Nat} {x1 x2 x3 : Int} {v : Int} {h1 : PM}
    (k11 : (x3 < I a0 (10 * x1).toNat) → (I a0 (((10 * x1) + 1) + x3).toNat ≠ x2) → L_X12_nearPlace_2 d n0 a0 x1 x2 (x3 + 1) I S v h1)
    (k12 : (I a0 (10 * x1).toNat ≤ x3) → (-1) = v)
    (h13 : (I a0 (10 * x1).toNat ≤ x3) → (I, S) = h1 := by intros; rfl)
    (k14 : (x3 < I a0 (10 * x1).toNat) → (I a0 (((10 * x1) + 1) + x3).toNat = x2) → x3 = v)
    (h15 : (x3 < I a0 (10 * x1).toNat) → (I a0 (((10 * x1) + 1) + x3).toNat = x2) → (I, S) = h1 := by intros; rfl)
    (v1 : -2147483648 ≤ 10 * x1 ∧ 10 * x1 ≤ 2147483647 := by intros; first | assumption | omega | (split <;> omega))
    (v2 : 0 ≤ 10 * x1 ∧ 10 * x1 < (n0 : Nat) := by intros; first | assumption | omega | (split <;> omega))
    (v5 : (x3 < I a0 (10 * x1).toNat) → -2147483648 ≤ (10 * x1) + 1 ∧ (10 * x1) + 1 ≤ 2147483647 := by intros; first | assumption | omega | (split <;> omega))
    (v6 : (x3 < I a0 (10 * x1).toNat) → -2147483648 ≤ ((10 * x1) + 1) + x3 ∧ ((10 * x1) + 1) + x3 ≤ 2147483647 := by intros; first | assumption | omega | (split <;> omega))
    (v7 : (x3 < I a0 (10 * x1).toNat) → 0 ≤ ((10 * x1) + 1) + x3 ∧ ((10 * x1) + 1) + x3 < (n0 : Nat) := by intros; first | assumption | omega | (split <;> omega))
    (v10 : (x3 < I a0 (10 * x1).toNat) → (I a0 (((10 * x1) + 1) + x3).toNat ≠ x2) → -2147483648 ≤ x3 + 1 ∧ x3 + 1 ≤ 2147483647 := by intros; first | assumption | omega | (split <;> omega)) : L_X12_nearPlace_2 d n0 a0 x1 x2 x3 I S v h1 :=
  
  b_X12_nearPlace_2 v1 v2 (fun (c3 : I a0 (10 * x1).toNat ≤ x3) => ev_ret2 (k12 c3) (h13 c3) (b_X12_nearPlace_34 )) (fun (c4 : x3 < I a0 (10 * x1).toNat) => 
    b_X12_nearPlace_12 v1 (v5 c4) (v6 c4) (v7 c4) (fun (c8 : I a0 (((10 * x1) + 1) + x3).toNat ≠ x2) => 
      b_X12_nearPlace_28 (v10 c4 c8) ((k11 c4 c8))) (fun (c9 : I a0 (((10 * x1) + 1) + x3).toNat = x2) => ev_ret2 (k14 c4 c9) (h15 c4 c9) (b_X12_nearPlace_26 )))
abbrev L_X12_runsOf_4 (d : Nat) (a0 : Nat) (x1 : Int) (x2 : Int) (x3 : Int) (I : Nat → Nat → Int) (S : PS) (v : Int) (h1 : PM) : Prop := Ev d mX12_runsOf (4, [some (vR (some (22, 0, a0))), some (vI x1), some (vI x2), some (vI x3)], [], (I, S)) (.inl (some (vI v)), h1)
theorem w_X12_runsOf_0 {d : Nat} {I : Nat → Nat → Int} {S : PS} {x1 : Int} {v : Int} {h1 : PM} (hl0 : LyX12 S)
    (k1 : L_X12_runsOf_4 d 156 x1 0 0 I S v h1) : Ca d mX12_runsOf [vR (some (22, 0, 156)), vI x1] (I, S) (.inl (some (vI v))) h1 :=
  Ca.of rfl rfl (
  b_X12_runsOf_0  (k1))
theorem w_X12_runsOf_4 {d : Nat} {I : Nat → Nat → Int} {S : PS} {x1 x2 x3 : Int} {v : Int} {h1 : PM} (hl0 : LyX12 S)
    (k8 : (x3 < I 156 37) → L_X12_runsOf_4 d 156 x1 (p_or x2 (if p_and (p_shr x1 (I 176 x3.toNat)) 1 ≠ 1 then (0 : Int) else p_shl 1 x3)) (x3 + 1) I S v h1)
    (k9 : (I 156 37 ≤ x3) → x2 = v)
    (h10 : (I 156 37 ≤ x3) → (I, S) = h1 := by intros; rfl)
    (v3 : (x3 < I 156 37) → 0 ≤ x3 ∧ x3 < (7 : Nat) := by intros; first | assumption | omega | (split <;> omega))
    (v7 : (x3 < I 156 37) → -2147483648 ≤ x3 + 1 ∧ x3 + 1 ≤ 2147483647 := by intros; first | assumption | omega | (split <;> omega)) : L_X12_runsOf_4 d 156 x1 x2 x3 I S v h1 :=
  
  b_X12_runsOf_4  (fun (c1 : I 156 37 ≤ x3) => ev_ret2 (k9 c1) (h10 c1) (b_X12_runsOf_42 )) (fun (c2 : x3 < I 156 37) => 
    have K5 : ∀ us1 : Int, us1 = (if p_and (p_shr x1 (I 176 x3.toNat)) 1 ≠ 1 then (0 : Int) else p_shl 1 x3) → Ev d mX12_runsOf (34, [some (vR (some (22, 0, 156))), some (vI x1), some (vI x2), some (vI x3)], [vI us1, vI x2], (I, S)) (.inl (some (vI v)), h1) := fun us1 e_us1 => by subst e_us1; exact (
      b_X12_runsOf_34 (v7 c2) ((k8 c2)))
    
    b_X12_runsOf_12 (ly_X12_36 hl0) (v3 c2) (fun (c4 : p_and (p_shr x1 (I 176 x3.toNat)) 1 ≠ 1) => 
      b_X12_runsOf_33  (K5 0 ((if_pos c4).symm))) (fun (c5 : p_and (p_shr x1 (I 176 x3.toNat)) 1 = 1) => 
      b_X12_runsOf_27  (K5 (p_shl 1 x3) ((if_neg (fun q => q c5)).symm))))
abbrev L_X12_areParted_4 (d : Nat) (a0 : Nat) (x1 : Int) (x2 : Int) (x3 : Int) (I : Nat → Nat → Int) (S : PS) (v : Int) (h1 : PM) : Prop := Ev (d + 1) mX12_areParted (4, [some (vR (some (22, 0, a0))), some (vI x1), some (vI x2), some (vI x3), none], [], (I, S)) (.inl (some (vI v)), h1)
abbrev L_X12_areParted_12 (d : Nat) (a0 : Nat) (x1 : Int) (x2 : Int) (x3 : Int) (x4 : Int) (I : Nat → Nat → Int) (S : PS) (v : Int) (h1 : PM) : Prop := Ev (d + 1) mX12_areParted (12, [some (vR (some (22, 0, a0))), some (vI x1), some (vI x2), some (vI x3), some (vI x4)], [], (I, S)) (.inl (some (vI v)), h1)
theorem w_X12_areParted_0 {d : Nat} {I : Nat → Nat → Int} {S : PS} {x1 x2 : Int} {v : Int} {h1 : PM} (hl0 : LyX12 S)
    (k2 : L_X12_areParted_4 d 156 x1 x2 (x1 + 1) I S v h1)
    (v1 : -2147483648 ≤ x1 + 1 ∧ x1 + 1 ≤ 2147483647 := by intros; first | assumption | omega | (split <;> omega)) : Ca (d + 1) mX12_areParted [vR (some (22, 0, 156)), vI x1, vI x2] (I, S) (.inl (some (vI v))) h1 :=
  Ca.of rfl rfl (
  b_X12_areParted_0 v1 (k2))
theorem w_X12_areParted_4 {d : Nat} {I : Nat → Nat → Int} {S : PS} {x1 x2 x3 : Int} {v : Int} {h1 : PM} (hl0 : LyX12 S)
    (k3 : (x3 ≤ x2) → L_X12_areParted_12 d 156 x1 x2 x3 0 I S v h1)
    (k4 : (x2 < x3) → 0 = v)
    (h5 : (x2 < x3) → (I, S) = h1 := by intros; rfl) : L_X12_areParted_4 d 156 x1 x2 x3 I S v h1 :=
  
  b_X12_areParted_4  (fun (c1 : x2 < x3) => ev_ret2 (k4 c1) (h5 c1) (b_X12_areParted_67 )) (fun (c2 : x3 ≤ x2) => 
    b_X12_areParted_9  ((k3 c2)))
theorem w_X12_areParted_12 {d : Nat} {I : Nat → Nat → Int} {S : PS} {x1 x2 x3 x4 : Int} {v : Int} {h1 : PM} (hl0 : LyX12 S)
    (k6 : ((I 156 37 + 1) / 2 ≤ x4) → L_X12_areParted_4 d 156 x1 x2 (x3 + 1) I S v h1)
    (k16 : (x4 < (I 156 37 + 1) / 2) → (x4 ≤ x1) → (I 176 (2 * x3).toNat ≠ I 176 (2 * x4).toNat) → L_X12_areParted_12 d 156 x1 x2 x3 (x4 + 1) I S v h1)
    (k20 : (x4 < (I 156 37 + 1) / 2) → (x1 < x4) → (x4 ≤ x2) → L_X12_areParted_12 d 156 x1 x2 x3 (x4 + 1) I S v h1)
    (k28 : (x4 < (I 156 37 + 1) / 2) → (x1 < x4) → (x2 < x4) → (I 176 (2 * x3).toNat ≠ I 176 (2 * x4).toNat) → L_X12_areParted_12 d 156 x1 x2 x3 (x4 + 1) I S v h1)
    (k29 : (x4 < (I 156 37 + 1) / 2) → (x4 ≤ x1) → (I 176 (2 * x3).toNat = I 176 (2 * x4).toNat) → 1 = v)
    (h30 : (x4 < (I 156 37 + 1) / 2) → (x4 ≤ x1) → (I 176 (2 * x3).toNat = I 176 (2 * x4).toNat) → (I, S) = h1 := by intros; rfl)
    (k31 : (x4 < (I 156 37 + 1) / 2) → (x1 < x4) → (x2 < x4) → (I 176 (2 * x3).toNat = I 176 (2 * x4).toNat) → 1 = v)
    (h32 : (x4 < (I 156 37 + 1) / 2) → (x1 < x4) → (x2 < x4) → (I 176 (2 * x3).toNat = I 176 (2 * x4).toNat) → (I, S) = h1 := by intros; rfl)
    (v1 : -2147483648 ≤ I 156 37 + 1 ∧ I 156 37 + 1 ≤ 2147483647 := by intros; first | assumption | omega | (split <;> omega))
    (v2 : (0 ≤ I 156 37 + 1 ∧ I 156 37 + 1 ≤ 2147483647) ∧ 0 < (2 : Int) ∧ (2 : Int) ≤ 2147483647 := by intros; first | assumption | omega | (split <;> omega))
    (v5 : ((I 156 37 + 1) / 2 ≤ x4) → -2147483648 ≤ x3 + 1 ∧ x3 + 1 ≤ 2147483647 := by intros; first | assumption | omega | (split <;> omega))
    (v9 : (x4 < (I 156 37 + 1) / 2) → (x4 ≤ x1) → -2147483648 ≤ 2 * x3 ∧ 2 * x3 ≤ 2147483647 := by intros; first | assumption | omega | (split <;> omega))
    (v10 : (x4 < (I 156 37 + 1) / 2) → (x4 ≤ x1) → 0 ≤ 2 * x3 ∧ 2 * x3 < (7 : Nat) := by intros; first | assumption | omega | (split <;> omega))
    (v11 : (x4 < (I 156 37 + 1) / 2) → (x4 ≤ x1) → -2147483648 ≤ 2 * x4 ∧ 2 * x4 ≤ 2147483647 := by intros; first | assumption | omega | (split <;> omega))
    (v12 : (x4 < (I 156 37 + 1) / 2) → (x4 ≤ x1) → 0 ≤ 2 * x4 ∧ 2 * x4 < (7 : Nat) := by intros; first | assumption | omega | (split <;> omega))
    (v15 : (x4 < (I 156 37 + 1) / 2) → (x4 ≤ x1) → (I 176 (2 * x3).toNat ≠ I 176 (2 * x4).toNat) → -2147483648 ≤ x4 + 1 ∧ x4 + 1 ≤ 2147483647 := by intros; first | assumption | omega | (split <;> omega))
    (v19 : (x4 < (I 156 37 + 1) / 2) → (x1 < x4) → (x4 ≤ x2) → -2147483648 ≤ x4 + 1 ∧ x4 + 1 ≤ 2147483647 := by intros; first | assumption | omega | (split <;> omega))
    (v21 : (x4 < (I 156 37 + 1) / 2) → (x1 < x4) → (x2 < x4) → -2147483648 ≤ 2 * x3 ∧ 2 * x3 ≤ 2147483647 := by intros; first | assumption | omega | (split <;> omega))
    (v22 : (x4 < (I 156 37 + 1) / 2) → (x1 < x4) → (x2 < x4) → 0 ≤ 2 * x3 ∧ 2 * x3 < (7 : Nat) := by intros; first | assumption | omega | (split <;> omega))
    (v23 : (x4 < (I 156 37 + 1) / 2) → (x1 < x4) → (x2 < x4) → -2147483648 ≤ 2 * x4 ∧ 2 * x4 ≤ 2147483647 := by intros; first | assumption | omega | (split <;> omega))
    (v24 : (x4 < (I 156 37 + 1) / 2) → (x1 < x4) → (x2 < x4) → 0 ≤ 2 * x4 ∧ 2 * x4 < (7 : Nat) := by intros; first | assumption | omega | (split <;> omega))
    (v27 : (x4 < (I 156 37 + 1) / 2) → (x1 < x4) → (x2 < x4) → (I 176 (2 * x3).toNat ≠ I 176 (2 * x4).toNat) → -2147483648 ≤ x4 + 1 ∧ x4 + 1 ≤ 2147483647 := by intros; first | assumption | omega | (split <;> omega)) : L_X12_areParted_12 d 156 x1 x2 x3 x4 I S v h1 :=
  
  b_X12_areParted_12  (c_X12_firsts hl0 v1 v2) (
  b_X12_areParted_18  (fun (c3 : (I 156 37 + 1) / 2 ≤ x4) => 
    b_X12_areParted_61 (v5 c3) ((k6 c3))) (fun (c4 : x4 < (I 156 37 + 1) / 2) => 
    b_X12_areParted_21  (fun (c7 : x4 ≤ x1) => 
      b_X12_areParted_33 (ly_X12_36 hl0) (v9 c4 c7) (v10 c4 c7) (v11 c4 c7) (v12 c4 c7) (fun (c13 : I 176 (2 * x3).toNat ≠ I 176 (2 * x4).toNat) => 
        b_X12_areParted_55 (v15 c4 c7 c13) ((k16 c4 c7 c13))) (fun (c14 : I 176 (2 * x3).toNat = I 176 (2 * x4).toNat) => ev_ret2 (k29 c4 c7 c14) (h30 c4 c7 c14) (b_X12_areParted_53 ))) (fun (c8 : x1 < x4) => 
      b_X12_areParted_27  (fun (c17 : x4 ≤ x2) => 
        b_X12_areParted_55 (v19 c4 c8 c17) ((k20 c4 c8 c17))) (fun (c18 : x2 < x4) => 
        b_X12_areParted_33 (ly_X12_36 hl0) (v21 c4 c8 c18) (v22 c4 c8 c18) (v23 c4 c8 c18) (v24 c4 c8 c18) (fun (c25 : I 176 (2 * x3).toNat ≠ I 176 (2 * x4).toNat) => 
          b_X12_areParted_55 (v27 c4 c8 c18 c25) ((k28 c4 c8 c18 c25))) (fun (c26 : I 176 (2 * x3).toNat = I 176 (2 * x4).toNat) => ev_ret2 (k31 c4 c8 c18 c26) (h32 c4 c8 c18 c26) (b_X12_areParted_53 ))))))
end
