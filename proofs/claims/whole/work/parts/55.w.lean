noncomputable section
abbrev L_X12_waysOf_4 (d : Nat) (a0 : Nat) (x1 : Int) (x2 : Int) (I : Nat → Nat → Int) (S : PS) (v : Int) (h1 : PM) : Prop := Ev (d + 1) mX12_waysOf (4, [some (vR (some (22, 0, a0))), some (vI x1), some (vI x2)], [], (I, S)) (.inl (some (vI v)), h1)
theorem w_X12_waysOf_0 {d : Nat} {I : Nat → Nat → Int} {S : PS} {v : Int} {h1 : PM} (hl0 : LyX12 S)
    (k1 : L_X12_waysOf_4 d 156 1 0 I S v h1) : Ca (d + 1) mX12_waysOf [vR (some (22, 0, 156))] (I, S) (.inl (some (vI v))) h1 :=
  Ca.of rfl rfl (
  b_X12_waysOf_0  (k1))
theorem w_X12_waysOf_4 {d : Nat} {I : Nat → Nat → Int} {S : PS} {x1 x2 : Int} {v : Int} {h1 : PM} (hl0 : LyX12 S)
    (k1 : (x2 < (I 156 37 + 1) / 2) → L_X12_waysOf_4 d 156 (4 * x1) (x2 + 1) I S v h1)
    (r1 : ((I 156 37 + 1) / 2 ≤ x2) → x1 = v)
    (e1 : ((I 156 37 + 1) / 2 ≤ x2) → (I, S) = h1 := by intros; rfl)
    (v1 : 0 ≤ I 156 37 ∧ I 156 37 ≤ 7 := by intros; first | assumption | omega | (split <;> omega))
    (v2 : (x2 < (I 156 37 + 1) / 2) → -2147483648 ≤ 4 * x1 ∧ 4 * x1 ≤ 2147483647 := by intros; first | assumption | omega | (split <;> omega))
    (v3 : (x2 < (I 156 37 + 1) / 2) → -2147483648 ≤ x2 + 1 ∧ x2 + 1 ≤ 2147483647 := by intros; first | assumption | omega | (split <;> omega)) : L_X12_waysOf_4 d 156 x1 x2 I S v h1 :=
  
  b_X12_waysOf_4  (c_X12_firsts hl0 v1) (
  b_X12_waysOf_9  (fun (c1 : (I 156 37 + 1) / 2 ≤ x2) => ev_ret2 (r1 c1) (e1 c1) (b_X12_waysOf_22 )) (fun (c2 : x2 < (I 156 37 + 1) / 2) => 
    b_X12_waysOf_12 (v2 c2) (v3 c2) ((k1 c2))))
abbrev L_X12_step5_4 (d : Nat) (a0 : Nat) (x1 : Int) (x2 : Int) (x3 : Int) (I : Nat → Nat → Int) (S : PS) (v : Int) (h1 : PM) : Prop := Ev d mX12_step5 (4, [some (vR (some (22, 0, a0))), some (vI x1), some (vI x2), some (vI x3)], [], (I, S)) (.inl (some (vI v)), h1)
theorem w_X12_step5_0 {d : Nat} {I : Nat → Nat → Int} {S : PS} {x1 : Int} {v : Int} {h1 : PM} (hl0 : LyX12 S)
    (k1 : L_X12_step5_4 d 156 x1 1 0 I S v h1) : Ca d mX12_step5 [vR (some (22, 0, 156)), vI x1] (I, S) (.inl (some (vI v))) h1 :=
  Ca.of rfl rfl (
  b_X12_step5_0  (k1))
theorem w_X12_step5_4 {d : Nat} {I : Nat → Nat → Int} {S : PS} {x1 x2 x3 : Int} {v : Int} {h1 : PM} (hl0 : LyX12 S)
    (k1 : (x3 < x1) → L_X12_step5_4 d 156 x1 (5 * x2) (x3 + 1) I S v h1)
    (r1 : (x1 ≤ x3) → x2 = v)
    (e1 : (x1 ≤ x3) → (I, S) = h1 := by intros; rfl)
    (v1 : (x3 < x1) → -2147483648 ≤ 5 * x2 ∧ 5 * x2 ≤ 2147483647 := by intros; first | assumption | omega | (split <;> omega))
    (v2 : (x3 < x1) → -2147483648 ≤ x3 + 1 ∧ x3 + 1 ≤ 2147483647 := by intros; first | assumption | omega | (split <;> omega)) : L_X12_step5_4 d 156 x1 x2 x3 I S v h1 :=
  
  b_X12_step5_4  (fun (c1 : x1 ≤ x3) => ev_ret2 (r1 c1) (e1 c1) (b_X12_step5_19 )) (fun (c2 : x3 < x1) => 
    b_X12_step5_9 (v1 c2) (v2 c2) ((k1 c2)))
abbrev L_X12_figureOf_5 (d : Nat) (a0 : Nat) (x1 : Int) (x2 : Int) (x3 : Int) (x4 : Int) (I : Nat → Nat → Int) (S : PS) (v : Int) (h1 : PM) : Prop := Ev d mX12_figureOf (5, [some (vR (some (22, 0, a0))), some (vI x1), some (vI x2), some (vI x3), some (vI x4)], [], (I, S)) (.inl (some (vI v)), h1)
theorem w_X12_figureOf_0 {d : Nat} {I : Nat → Nat → Int} {S : PS} {x1 x2 : Int} {v : Int} {h1 : PM} (hl0 : LyX12 S)
    (k1 : L_X12_figureOf_5 d 156 x1 x2 x1 0 I S v h1) : Ca d mX12_figureOf [vR (some (22, 0, 156)), vI x1, vI x2] (I, S) (.inl (some (vI v))) h1 :=
  Ca.of rfl rfl (
  b_X12_figureOf_0  (k1))
theorem w_X12_figureOf_5 {d : Nat} {I : Nat → Nat → Int} {S : PS} {x1 x2 x3 x4 : Int} {v : Int} {h1 : PM} (hl0 : LyX12 S)
    (k1 : (x4 < x2) → L_X12_figureOf_5 d 156 x1 x2 (x3 / 5) (x4 + 1) I S v h1)
    (r1 : (x2 ≤ x4) → x3 % 5 = v)
    (e1 : (x2 ≤ x4) → (I, S) = h1 := by intros; rfl)
    (v1 : (x2 ≤ x4) → (0 ≤ x3 ∧ x3 ≤ 2147483647) ∧ 0 < (5 : Int) ∧ (5 : Int) ≤ 2147483647 := by intros; first | assumption | omega | (split <;> omega))
    (v2 : (x4 < x2) → (0 ≤ x3 ∧ x3 ≤ 2147483647) ∧ 0 < (5 : Int) ∧ (5 : Int) ≤ 2147483647 := by intros; first | assumption | omega | (split <;> omega))
    (v3 : (x4 < x2) → -2147483648 ≤ x4 + 1 ∧ x4 + 1 ≤ 2147483647 := by intros; first | assumption | omega | (split <;> omega)) : L_X12_figureOf_5 d 156 x1 x2 x3 x4 I S v h1 :=
  
  b_X12_figureOf_5  (fun (c1 : x2 ≤ x4) => ev_ret2 (r1 c1) (e1 c1) (b_X12_figureOf_21 (v1 c1))) (fun (c2 : x4 < x2) => 
    b_X12_figureOf_11 (v2 c2) (v3 c2) ((k1 c2)))
abbrev L_X12_find_2 (d : Nat) (a0 : Nat) (x1 : Int) (x2 : Int) (x3 : Int) (I : Nat → Nat → Int) (S : PS) (v : Int) (h1 : PM) : Prop := Ev d mX12_find (2, [some (vR (some (22, 0, a0))), some (vI x1), some (vI x2), some (vI x3)], [], (I, S)) (.inl (some (vI v)), h1)
theorem w_X12_find_0 {d : Nat} {I : Nat → Nat → Int} {S : PS} {x1 x2 : Int} {v : Int} {h1 : PM} (hl0 : LyX12 S)
    (k1 : L_X12_find_2 d 156 x1 x2 0 I S v h1) : Ca d mX12_find [vR (some (22, 0, 156)), vI x1, vI x2] (I, S) (.inl (some (vI v))) h1 :=
  Ca.of rfl rfl (
  b_X12_find_0  (k1))
theorem w_X12_find_2 {d : Nat} {I : Nat → Nat → Int} {S : PS} {x1 x2 x3 : Int} {v : Int} {h1 : PM} (hl0 : LyX12 S)
    (k1 : (x3 < I 167 x1.toNat) → (I 168 ((96 * x1) + x3).toNat ≠ x2) → L_X12_find_2 d 156 x1 x2 (x3 + 1) I S v h1)
    (r1 : (I 167 x1.toNat ≤ x3) → (-1) = v)
    (e1 : (I 167 x1.toNat ≤ x3) → (I, S) = h1 := by intros; rfl)
    (r2 : (x3 < I 167 x1.toNat) → (I 168 ((96 * x1) + x3).toNat = x2) → x3 = v)
    (e2 : (x3 < I 167 x1.toNat) → (I 168 ((96 * x1) + x3).toNat = x2) → (I, S) = h1 := by intros; rfl)
    (v1 : 0 ≤ x1 ∧ x1 < (4 : Nat) := by intros; first | assumption | omega | (split <;> omega))
    (v2 : (x3 < I 167 x1.toNat) → -2147483648 ≤ 96 * x1 ∧ 96 * x1 ≤ 2147483647 := by intros; first | assumption | omega | (split <;> omega))
    (v3 : (x3 < I 167 x1.toNat) → -2147483648 ≤ (96 * x1) + x3 ∧ (96 * x1) + x3 ≤ 2147483647 := by intros; first | assumption | omega | (split <;> omega))
    (v4 : (x3 < I 167 x1.toNat) → 0 ≤ (96 * x1) + x3 ∧ (96 * x1) + x3 < (384 : Nat) := by intros; first | assumption | omega | (split <;> omega))
    (v5 : (x3 < I 167 x1.toNat) → (I 168 ((96 * x1) + x3).toNat ≠ x2) → -2147483648 ≤ x3 + 1 ∧ x3 + 1 ≤ 2147483647 := by intros; first | assumption | omega | (split <;> omega)) : L_X12_find_2 d 156 x1 x2 x3 I S v h1 :=
  
  b_X12_find_2 (ly_X12_27 hl0) v1 (fun (c1 : I 167 x1.toNat ≤ x3) => ev_ret2 (r1 c1) (e1 c1) (b_X12_find_35 )) (fun (c2 : x3 < I 167 x1.toNat) => 
    b_X12_find_12 (ly_X12_28 hl0) (v2 c2) (v3 c2) (v4 c2) (fun (c3 : I 168 ((96 * x1) + x3).toNat ≠ x2) => 
      b_X12_find_29 (v5 c2 c3) ((k1 c2 c3))) (fun (c4 : I 168 ((96 * x1) + x3).toNat = x2) => ev_ret2 (r2 c2 c4) (e2 c2 c4) (b_X12_find_27 )))
abbrev L_X12_sumOf_5 (d : Nat) (a0 : Nat) (n1 : Nat) (a1 : Nat) (x2 : Int) (x3 : Int) (x4 : Int) (I : Nat → Nat → Int) (S : PS) (v : Int) (h1 : PM) : Prop := Ev d mX12_sumOf (5, [some (vR (some (22, 0, a0))), some (vR (some (0, n1, a1))), some (vI x2), some (vI x3), some (vI x4)], [], (I, S)) (.inl (some (vI v)), h1)
theorem w_X12_sumOf_0 {d : Nat} {I : Nat → Nat → Int} {S : PS} {n1 a1 : Nat} {x2 : Int} {v : Int} {h1 : PM} (hl0 : LyX12 S)
    (k1 : L_X12_sumOf_5 d 156 n1 a1 x2 0 0 I S v h1) : Ca d mX12_sumOf [vR (some (22, 0, 156)), vR (some (0, n1, a1)), vI x2] (I, S) (.inl (some (vI v))) h1 :=
  Ca.of rfl rfl (
  b_X12_sumOf_0  (k1))
theorem w_X12_sumOf_5 {d : Nat} {I : Nat → Nat → Int} {S : PS} {n1 a1 : Nat} {x2 x3 x4 : Int} {v : Int} {h1 : PM} (hl0 : LyX12 S)
    (k1 : (x4 < I 167 x2.toNat) → L_X12_sumOf_5 d 156 n1 a1 x2 (x3 + (I a1 ((96 * x2) + x4).toNat)) (x4 + 1) I S v h1)
    (r1 : (I 167 x2.toNat ≤ x4) → x3 = v)
    (e1 : (I 167 x2.toNat ≤ x4) → (I, S) = h1 := by intros; rfl)
    (v1 : 0 ≤ x2 ∧ x2 < (4 : Nat) := by intros; first | assumption | omega | (split <;> omega))
    (v2 : (x4 < I 167 x2.toNat) → -2147483648 ≤ 96 * x2 ∧ 96 * x2 ≤ 2147483647 := by intros; first | assumption | omega | (split <;> omega))
    (v3 : (x4 < I 167 x2.toNat) → -2147483648 ≤ (96 * x2) + x4 ∧ (96 * x2) + x4 ≤ 2147483647 := by intros; first | assumption | omega | (split <;> omega))
    (v4 : (x4 < I 167 x2.toNat) → 0 ≤ (96 * x2) + x4 ∧ (96 * x2) + x4 < (n1 : Nat) := by intros; first | assumption | omega | (split <;> omega))
    (v5 : (x4 < I 167 x2.toNat) → -2147483648 ≤ x3 + (I a1 ((96 * x2) + x4).toNat) ∧ x3 + (I a1 ((96 * x2) + x4).toNat) ≤ 2147483647 := by intros; first | assumption | omega | (split <;> omega))
    (v6 : (x4 < I 167 x2.toNat) → -2147483648 ≤ x4 + 1 ∧ x4 + 1 ≤ 2147483647 := by intros; first | assumption | omega | (split <;> omega)) : L_X12_sumOf_5 d 156 n1 a1 x2 x3 x4 I S v h1 :=
  
  b_X12_sumOf_5 (ly_X12_27 hl0) v1 (fun (c1 : I 167 x2.toNat ≤ x4) => ev_ret2 (r1 c1) (e1 c1) (b_X12_sumOf_34 )) (fun (c2 : x4 < I 167 x2.toNat) => 
    b_X12_sumOf_16 (v2 c2) (v3 c2) (v4 c2) (v5 c2) (v6 c2) ((k1 c2)))
abbrev L_X12_badOnes_4 (d : Nat) (a0 : Nat) (x1 : Int) (x2 : Int) (x3 : Int) (I : Nat → Nat → Int) (S : PS) (v : Int) (h1 : PM) : Prop := Ev d mX12_badOnes (4, [some (vR (some (22, 0, a0))), some (vI x1), some (vI x2), some (vI x3)], [], (I, S)) (.inl (some (vI v)), h1)
theorem w_X12_badOnes_0 {d : Nat} {I : Nat → Nat → Int} {S : PS} {x1 : Int} {v : Int} {h1 : PM} (hl0 : LyX12 S)
    (k1 : L_X12_badOnes_4 d 156 x1 0 0 I S v h1) : Ca d mX12_badOnes [vR (some (22, 0, 156)), vI x1] (I, S) (.inl (some (vI v))) h1 :=
  Ca.of rfl rfl (
  b_X12_badOnes_0  (k1))
theorem w_X12_badOnes_4 {d : Nat} {I : Nat → Nat → Int} {S : PS} {x1 x2 x3 : Int} {v : Int} {h1 : PM} (hl0 : LyX12 S)
    (k1 : (x3 < I 167 x1.toNat) → L_X12_badOnes_4 d 156 x1 (x2 + (if I 171 ((96 * x1) + x3).toNat = (-1) then (1 : Int) else 0)) (x3 + 1) I S v h1)
    (r1 : (I 167 x1.toNat ≤ x3) → x2 = v)
    (e1 : (I 167 x1.toNat ≤ x3) → (I, S) = h1 := by intros; rfl)
    (v1 : 0 ≤ x1 ∧ x1 < (4 : Nat) := by intros; first | assumption | omega | (split <;> omega))
    (v2 : (x3 < I 167 x1.toNat) → -2147483648 ≤ 96 * x1 ∧ 96 * x1 ≤ 2147483647 := by intros; first | assumption | omega | (split <;> omega))
    (v3 : (x3 < I 167 x1.toNat) → -2147483648 ≤ (96 * x1) + x3 ∧ (96 * x1) + x3 ≤ 2147483647 := by intros; first | assumption | omega | (split <;> omega))
    (v4 : (x3 < I 167 x1.toNat) → 0 ≤ (96 * x1) + x3 ∧ (96 * x1) + x3 < (384 : Nat) := by intros; first | assumption | omega | (split <;> omega))
    (v5 : (x3 < I 167 x1.toNat) → -2147483648 ≤ x2 + (if I 171 ((96 * x1) + x3).toNat = (-1) then (1 : Int) else 0) ∧ x2 + (if I 171 ((96 * x1) + x3).toNat = (-1) then (1 : Int) else 0) ≤ 2147483647 := by intros; first | assumption | omega | (split <;> omega))
    (v6 : (x3 < I 167 x1.toNat) → -2147483648 ≤ x3 + 1 ∧ x3 + 1 ≤ 2147483647 := by intros; first | assumption | omega | (split <;> omega)) : L_X12_badOnes_4 d 156 x1 x2 x3 I S v h1 :=
  
  b_X12_badOnes_4 (ly_X12_27 hl0) v1 (fun (c1 : I 167 x1.toNat ≤ x3) => ev_ret2 (r1 c1) (e1 c1) (b_X12_badOnes_43 )) (fun (c2 : x3 < I 167 x1.toNat) => 
    have K4 : ∀ us1 : Int, us1 = (if I 171 ((96 * x1) + x3).toNat = (-1) then (1 : Int) else 0) → Ev d mX12_badOnes (35, [some (vR (some (22, 0, 156))), some (vI x1), some (vI x2), some (vI x3)], [vI us1, vI x2], (I, S)) (.inl (some (vI v)), h1) := fun us1 e_us1 => by subst e_us1; exact (
      b_X12_badOnes_35 (v5 c2) (v6 c2) ((k1 c2)))
    
    b_X12_badOnes_14 (ly_X12_31 hl0) (v2 c2) (v3 c2) (v4 c2) (fun (c3 : I 171 ((96 * x1) + x3).toNat ≠ (-1)) => 
      b_X12_badOnes_34  (K4 0 (if_neg c3).symm)) (fun (c4 : I 171 ((96 * x1) + x3).toNat = (-1)) => 
      b_X12_badOnes_30  (K4 1 (if_pos c4).symm)))
abbrev L_X12_rounds_4 (d : Nat) (a0 : Nat) (x1 : Int) (x2 : Int) (x3 : Int) (I : Nat → Nat → Int) (S : PS) (v : Int) (h1 : PM) : Prop := Ev d mX12_rounds (4, [some (vR (some (22, 0, a0))), some (vI x1), some (vI x2), some (vI x3)], [], (I, S)) (.inl (some (vI v)), h1)
theorem w_X12_rounds_0 {d : Nat} {I : Nat → Nat → Int} {S : PS} {x1 : Int} {v : Int} {h1 : PM} (hl0 : LyX12 S)
    (k1 : L_X12_rounds_4 d 156 x1 0 0 I S v h1) : Ca d mX12_rounds [vR (some (22, 0, 156)), vI x1] (I, S) (.inl (some (vI v))) h1 :=
  Ca.of rfl rfl (
  b_X12_rounds_0  (k1))
theorem w_X12_rounds_4 {d : Nat} {I : Nat → Nat → Int} {S : PS} {x1 x2 x3 : Int} {v : Int} {h1 : PM} (hl0 : LyX12 S)
    (k1 : (x3 < I 167 x1.toNat) → L_X12_rounds_4 d 156 x1 (if I 171 ((96 * x1) + x3).toNat ≤ x2 then (x2 : Int) else I 171 ((96 * x1) + x3).toNat) (x3 + 1) I S v h1)
    (r1 : (I 167 x1.toNat ≤ x3) → x2 = v)
    (e1 : (I 167 x1.toNat ≤ x3) → (I, S) = h1 := by intros; rfl)
    (v1 : 0 ≤ x1 ∧ x1 < (4 : Nat) := by intros; first | assumption | omega | (split <;> omega))
    (v2 : (x3 < I 167 x1.toNat) → -2147483648 ≤ 96 * x1 ∧ 96 * x1 ≤ 2147483647 := by intros; first | assumption | omega | (split <;> omega))
    (v3 : (x3 < I 167 x1.toNat) → -2147483648 ≤ (96 * x1) + x3 ∧ (96 * x1) + x3 ≤ 2147483647 := by intros; first | assumption | omega | (split <;> omega))
    (v4 : (x3 < I 167 x1.toNat) → 0 ≤ (96 * x1) + x3 ∧ (96 * x1) + x3 < (384 : Nat) := by intros; first | assumption | omega | (split <;> omega))
    (v5 : (x3 < I 167 x1.toNat) → -2147483648 ≤ x3 + 1 ∧ x3 + 1 ≤ 2147483647 := by intros; first | assumption | omega | (split <;> omega)) : L_X12_rounds_4 d 156 x1 x2 x3 I S v h1 :=
  
  b_X12_rounds_4 (ly_X12_27 hl0) v1 (fun (c1 : I 167 x1.toNat ≤ x3) => ev_ret2 (r1 c1) (e1 c1) (b_X12_rounds_51 )) (fun (c2 : x3 < I 167 x1.toNat) => 
    have K4 : ∀ us0 : Int, us0 = (if I 171 ((96 * x1) + x3).toNat ≤ x2 then (x2 : Int) else I 171 ((96 * x1) + x3).toNat) → Ev d mX12_rounds (44, [some (vR (some (22, 0, 156))), some (vI x1), some (vI x2), some (vI x3)], [vI us0], (I, S)) (.inl (some (vI v)), h1) := fun us0 e_us0 => by subst e_us0; exact (
      b_X12_rounds_44 (v5 c2) ((k1 c2)))
    
    b_X12_rounds_14 (ly_X12_31 hl0) (v2 c2) (v3 c2) (v4 c2) (fun (c3 : I 171 ((96 * x1) + x3).toNat ≤ x2) => 
      b_X12_rounds_43  (K4 x2 ((if_pos c3).symm))) (fun (c4 : x2 < I 171 ((96 * x1) + x3).toNat) => 
      b_X12_rounds_29 (ly_X12_31 hl0) (v2 c2) (v3 c2) (v4 c2) (K4 (I 171 ((96 * x1) + x3).toNat) ((if_neg (Int.not_le.mpr c4)).symm))))
abbrev L_X12_isProper_2 (d : Nat) (a0 : Nat) (x1 : Int) (x2 : Int) (x3 : Int) (I : Nat → Nat → Int) (S : PS) (v : Int) (h1 : PM) : Prop := Ev (d + 2) mX12_isProper (2, [some (vR (some (22, 0, a0))), some (vI x1), some (vI x2), some (vI x3)], [], (I, S)) (.inl (some (vI v)), h1)
theorem w_X12_isProper_0 {d : Nat} {I : Nat → Nat → Int} {S : PS} {x1 x2 : Int} {v : Int} {h1 : PM} (hl0 : LyX12 S)
    (k1 : L_X12_isProper_2 d 156 x1 x2 0 I S v h1) : Ca (d + 2) mX12_isProper [vR (some (22, 0, 156)), vI x1, vI x2] (I, S) (.inl (some (vI v))) h1 :=
  Ca.of rfl rfl (
  b_X12_isProper_0  (k1))
theorem w_X12_isProper_2 {d : Nat} {I : Nat → Nat → Int} {S : PS} {x1 x2 x3 : Int} {v : Int} {h1 : PM} (hl0 : LyX12 S)
    (k1 : (x3 < I 159 ((20 * x1) + 9).toNat) → (p_and (p_shr x2 (2 * (((I 159 ((20 * x1) + 9).toNat) - 1) - x3))) 3 ≠ p_and (p_shr x2 (2 * (((I 159 ((20 * x1) + 9).toNat) - 1) - ((x3 + 1) % (I 159 ((20 * x1) + 9).toNat))))) 3) → L_X12_isProper_2 d 156 x1 x2 (x3 + 1) I S v h1)
    (r1 : (I 159 ((20 * x1) + 9).toNat ≤ x3) → 1 = v)
    (e1 : (I 159 ((20 * x1) + 9).toNat ≤ x3) → (I, S) = h1 := by intros; rfl)
    (r2 : (x3 < I 159 ((20 * x1) + 9).toNat) → (p_and (p_shr x2 (2 * (((I 159 ((20 * x1) + 9).toNat) - 1) - x3))) 3 = p_and (p_shr x2 (2 * (((I 159 ((20 * x1) + 9).toNat) - 1) - ((x3 + 1) % (I 159 ((20 * x1) + 9).toNat))))) 3) → 0 = v)
    (e2 : (x3 < I 159 ((20 * x1) + 9).toNat) → (p_and (p_shr x2 (2 * (((I 159 ((20 * x1) + 9).toNat) - 1) - x3))) 3 = p_and (p_shr x2 (2 * (((I 159 ((20 * x1) + 9).toNat) - 1) - ((x3 + 1) % (I 159 ((20 * x1) + 9).toNat))))) 3) → (I, S) = h1 := by intros; rfl)
    (v1 : 0 ≤ x1 ∧ x1 < 4 := by intros; first | assumption | omega | (split <;> omega))
    (v2 : (x3 < I 159 ((20 * x1) + 9).toNat) → 0 ≤ I 159 ((20 * x1) + 9).toNat ∧ I 159 ((20 * x1) + 9).toNat ≤ 7 := by intros; first | assumption | omega | (split <;> omega))
    (v3 : (x3 < I 159 ((20 * x1) + 9).toNat) → 0 ≤ x3 ∧ x3 ≤ 7 := by intros; first | assumption | omega | (split <;> omega))
    (v4 : (x3 < I 159 ((20 * x1) + 9).toNat) → -2147483648 ≤ x3 + 1 ∧ x3 + 1 ≤ 2147483647 := by intros; first | assumption | omega | (split <;> omega))
    (v5 : (x3 < I 159 ((20 * x1) + 9).toNat) → (0 ≤ x3 + 1 ∧ x3 + 1 ≤ 2147483647) ∧ 0 < I 159 ((20 * x1) + 9).toNat ∧ I 159 ((20 * x1) + 9).toNat ≤ 2147483647 := by intros; first | assumption | omega | (split <;> omega))
    (v6 : (x3 < I 159 ((20 * x1) + 9).toNat) → 0 ≤ ((x3 + 1) % (I 159 ((20 * x1) + 9).toNat)) ∧ ((x3 + 1) % (I 159 ((20 * x1) + 9).toNat)) ≤ 7 := by intros; first | assumption | omega | (split <;> omega)) : L_X12_isProper_2 d 156 x1 x2 x3 I S v h1 :=
  
  b_X12_isProper_2  (c_X12_ring hl0 v1) (
  b_X12_isProper_8  (fun (c1 : I 159 ((20 * x1) + 9).toNat ≤ x3) => ev_ret2 (r1 c1) (e1 c1) (b_X12_isProper_44 )) (fun (c2 : x3 < I 159 ((20 * x1) + 9).toNat) => 
    b_X12_isProper_11  (c_X12_colourAt hl0 v1 (v2 c2) (v3 c2)) (
    b_X12_isProper_18 (v4 c2) (c_X12_ring hl0 v1) (
    b_X12_isProper_29 (v5 c2) (c_X12_colourAt hl0 v1 (v2 c2) (v6 c2)) (
    b_X12_isProper_33  (fun (c3 : p_and (p_shr x2 (2 * (((I 159 ((20 * x1) + 9).toNat) - 1) - x3))) 3 ≠ p_and (p_shr x2 (2 * (((I 159 ((20 * x1) + 9).toNat) - 1) - ((x3 + 1) % (I 159 ((20 * x1) + 9).toNat))))) 3) => 
      b_X12_isProper_38 (v4 c2) ((k1 c2 c3))) (fun (c4 : p_and (p_shr x2 (2 * (((I 159 ((20 * x1) + 9).toNat) - 1) - x3))) 3 = p_and (p_shr x2 (2 * (((I 159 ((20 * x1) + 9).toNat) - 1) - ((x3 + 1) % (I 159 ((20 * x1) + 9).toNat))))) 3) => ev_ret2 (r2 c2 c4) (e2 c2 c4) (b_X12_isProper_36 )))))))
abbrev L_X12_named0_8 (d : Nat) (a0 : Nat) (x1 : Int) (x2 : Int) (x3 : Int) (x4 : Int) (x5 : Int) (I : Nat → Nat → Int) (S : PS) (v : Int) (h1 : PM) : Prop := Ev (d + 2) mX12_named0 (8, [some (vR (some (22, 0, a0))), some (vI x1), some (vI x2), some (vI x3), some (vI x4), some (vI x5), none], [], (I, S)) (.inl (some (vI v)), h1)
abbrev L_X12_named0_31 (d : Nat) (a0 : Nat) (x1 : Int) (x2 : Int) (x3 : Int) (x4 : Int) (x5 : Int) (I : Nat → Nat → Int) (S : PS) (v : Int) (h1 : PM) : Prop := Ev (d + 2) mX12_named0 (31, [some (vR (some (22, 0, a0))), some (vI x1), some (vI x2), some (vI x3), some (vI x4), some (vI x5), none], [], (I, S)) (.inl (some (vI v)), h1)
theorem w_X12_named0_0 {d : Nat} {I : Nat → Nat → Int} {S : PS} {x1 x2 : Int} {v : Int} {h1 : PM} (hl0 : LyX12 S)
    (k1 : L_X12_named0_8 d 156 x1 x2 0 0 0 I S v h1) : Ca (d + 2) mX12_named0 [vR (some (22, 0, 156)), vI x1, vI x2] (I, S) (.inl (some (vI v))) h1 :=
  Ca.of rfl rfl (
  b_X12_named0_0  (k1))
theorem w_X12_named0_8 {d : Nat} {I : Nat → Nat → Int} {S : PS} {x1 x2 x3 x4 x5 : Int} {v : Int} {h1 : PM} (hl0 : LyX12 S)
    (k1 : (4 ≤ x5) → L_X12_named0_31 d 156 x1 x2 x3 x4 0 I S v h1)
    (k2 : (x5 < 4) → L_X12_named0_8 d 156 x1 x2 x3 x4 (x5 + 1) (up2 I 174 (x5.toNat) (-1)) S v h1)
    (v1 : (x5 < 4) → 0 ≤ x5 ∧ x5 < (4 : Nat) := by intros; first | assumption | omega | (split <;> omega))
    (v2 : (x5 < 4) → -2147483648 ≤ x5 + 1 ∧ x5 + 1 ≤ 2147483647 := by intros; first | assumption | omega | (split <;> omega)) : L_X12_named0_8 d 156 x1 x2 x3 x4 x5 I S v h1 :=
  
  b_X12_named0_8  (fun (c1 : 4 ≤ x5) => 
    b_X12_named0_28  ((k1 c1))) (fun (c2 : x5 < 4) => 
    b_X12_named0_14 (ly_X12_34 hl0) (v1 c2) (v2 c2) ((k2 c2)))
theorem w_X12_named0_31 {d : Nat} {I : Nat → Nat → Int} {S : PS} {x1 x2 x3 x4 x5 : Int} {v : Int} {h1 : PM} (hl0 : LyX12 S)
    (k1 : (x5 < I 159 ((20 * x1) + 9).toNat) → (I 174 (p_and (p_shr x2 (2 * (((I 159 ((20 * x1) + 9).toNat) - 1) - x5))) 3).toNat ≠ (-1)) → L_X12_named0_31 d 156 x1 x2 (p_or (p_shl x3 2) (I 174 (p_and (p_shr x2 (2 * (((I 159 ((20 * x1) + 9).toNat) - 1) - x5))) 3).toNat)) x4 (x5 + 1) I S v h1)
    (k2 : (x5 < I 159 ((20 * x1) + 9).toNat) → (I 174 (p_and (p_shr x2 (2 * (((I 159 ((20 * x1) + 9).toNat) - 1) - x5))) 3).toNat = (-1)) → L_X12_named0_31 d 156 x1 x2 (p_or (p_shl x3 2) ((up2 I 174 ((p_and (p_shr x2 (2 * (((I 159 ((20 * x1) + 9).toNat) - 1) - x5))) 3).toNat) x4) 174 (p_and (p_shr x2 (2 * (((I 159 ((20 * x1) + 9).toNat) - 1) - x5))) 3).toNat)) (x4 + 1) (x5 + 1) (up2 I 174 ((p_and (p_shr x2 (2 * (((I 159 ((20 * x1) + 9).toNat) - 1) - x5))) 3).toNat) x4) S v h1)
    (r1 : (I 159 ((20 * x1) + 9).toNat ≤ x5) → x3 = v)
    (e1 : (I 159 ((20 * x1) + 9).toNat ≤ x5) → (I, S) = h1 := by intros; rfl)
    (v1 : 0 ≤ x1 ∧ x1 < 4 := by intros; first | assumption | omega | (split <;> omega))
    (v2 : (x5 < I 159 ((20 * x1) + 9).toNat) → 0 ≤ I 159 ((20 * x1) + 9).toNat ∧ I 159 ((20 * x1) + 9).toNat ≤ 7 := by intros; first | assumption | omega | (split <;> omega))
    (v3 : (x5 < I 159 ((20 * x1) + 9).toNat) → 0 ≤ x5 ∧ x5 ≤ 7 := by intros; first | assumption | omega | (split <;> omega))
    (v4 : (x5 < I 159 ((20 * x1) + 9).toNat) → 0 ≤ p_and (p_shr x2 (2 * (((I 159 ((20 * x1) + 9).toNat) - 1) - x5))) 3 ∧ p_and (p_shr x2 (2 * (((I 159 ((20 * x1) + 9).toNat) - 1) - x5))) 3 < (4 : Nat) := by intros; first | assumption | omega | (split <;> omega))
    (v5 : (x5 < I 159 ((20 * x1) + 9).toNat) → (I 174 (p_and (p_shr x2 (2 * (((I 159 ((20 * x1) + 9).toNat) - 1) - x5))) 3).toNat ≠ (-1)) → -2147483648 ≤ x5 + 1 ∧ x5 + 1 ≤ 2147483647 := by intros; first | assumption | omega | (split <;> omega))
    (v6 : (x5 < I 159 ((20 * x1) + 9).toNat) → (I 174 (p_and (p_shr x2 (2 * (((I 159 ((20 * x1) + 9).toNat) - 1) - x5))) 3).toNat = (-1)) → -2147483648 ≤ x4 + 1 ∧ x4 + 1 ≤ 2147483647 := by intros; first | assumption | omega | (split <;> omega))
    (v7 : (x5 < I 159 ((20 * x1) + 9).toNat) → (I 174 (p_and (p_shr x2 (2 * (((I 159 ((20 * x1) + 9).toNat) - 1) - x5))) 3).toNat = (-1)) → -2147483648 ≤ x5 + 1 ∧ x5 + 1 ≤ 2147483647 := by intros; first | assumption | omega | (split <;> omega)) : L_X12_named0_31 d 156 x1 x2 x3 x4 x5 I S v h1 :=
  
  b_X12_named0_31  (c_X12_ring hl0 v1) (
  b_X12_named0_38  (fun (c1 : I 159 ((20 * x1) + 9).toNat ≤ x5) => ev_ret2 (r1 c1) (e1 c1) (b_X12_named0_92 )) (fun (c2 : x5 < I 159 ((20 * x1) + 9).toNat) => 
    b_X12_named0_41  (c_X12_colourAt hl0 v1 (v2 c2) (v3 c2)) (
    b_X12_named0_49 (ly_X12_34 hl0) (v4 c2) (fun (c3 : I 174 (p_and (p_shr x2 (2 * (((I 159 ((20 * x1) + 9).toNat) - 1) - x5))) 3).toNat ≠ (-1)) => 
      b_X12_named0_74 (ly_X12_34 hl0) (v4 c2) (v5 c2 c3) ((k1 c2 c3))) (fun (c4 : I 174 (p_and (p_shr x2 (2 * (((I 159 ((20 * x1) + 9).toNat) - 1) - x5))) 3).toNat = (-1)) => 
      b_X12_named0_62 (ly_X12_34 hl0) (v4 c2) (v6 c2 c4) (
      b_X12_named0_74 (ly_X12_34 hl0) (v4 c2) (v7 c2 c4) ((k2 c2 c4)))))))
abbrev L_X12_laysNear_2 (d : Nat) (a0 : Nat) (x1 : Int) (x2 : Int) (I : Nat → Nat → Int) (S : PS) (h1 : PM) : Prop := Ev (d + 1) mX12_laysNear (2, [some (vR (some (22, 0, a0))), some (vI x1), some (vI x2)], [], (I, S)) (.inl none, h1)
theorem w_X12_laysNear_0 {d : Nat} {I : Nat → Nat → Int} {S : PS} {x1 : Int} {h1 : PM} (hl0 : LyX12 S)
    (k1 : L_X12_laysNear_2 d 156 x1 0 I S h1) : Ca (d + 1) mX12_laysNear [vR (some (22, 0, 156)), vI x1] (I, S) (.inl none) h1 :=
  Ca.of rfl rfl (
  b_X12_laysNear_0  (k1))
theorem w_X12_laysNear_2 {d : Nat} {I : Nat → Nat → Int} {S : PS} {x1 x2 : Int} {h1 : PM} (hl0 : LyX12 S)
    (k1 : (x2 < I 161 (10 * x1).toNat) → L_X12_laysNear_2 d 156 x1 (x2 + 1) (up2 I 177 (x2.toNat) (I 161 (10 * (I 161 (((10 * x1) + 1) + x2).toNat)).toNat)) S h1)
    (e1 : (I 161 (10 * x1).toNat ≤ x2) → (I, S) = h1 := by intros; rfl)
    (v1 : 0 ≤ x1 ∧ x1 < 12 := by intros; first | assumption | omega | (split <;> omega))
    (v2 : (x2 < I 161 (10 * x1).toNat) → -2147483648 ≤ 10 * x1 ∧ 10 * x1 ≤ 2147483647 := by intros; first | assumption | omega | (split <;> omega))
    (v3 : (x2 < I 161 (10 * x1).toNat) → -2147483648 ≤ (10 * x1) + 1 ∧ (10 * x1) + 1 ≤ 2147483647 := by intros; first | assumption | omega | (split <;> omega))
    (v4 : (x2 < I 161 (10 * x1).toNat) → -2147483648 ≤ ((10 * x1) + 1) + x2 ∧ ((10 * x1) + 1) + x2 ≤ 2147483647 := by intros; first | assumption | omega | (split <;> omega))
    (v5 : (x2 < I 161 (10 * x1).toNat) → 0 ≤ ((10 * x1) + 1) + x2 ∧ ((10 * x1) + 1) + x2 < (120 : Nat) := by intros; first | assumption | omega | (split <;> omega))
    (v6 : (x2 < I 161 (10 * x1).toNat) → 0 ≤ (I 161 (((10 * x1) + 1) + x2).toNat) ∧ (I 161 (((10 * x1) + 1) + x2).toNat) < 12 := by intros; first | assumption | omega | (split <;> omega))
    (v7 : (x2 < I 161 (10 * x1).toNat) → 0 ≤ x2 ∧ x2 < (9 : Nat) := by intros; first | assumption | omega | (split <;> omega))
    (v8 : (x2 < I 161 (10 * x1).toNat) → -2147483648 ≤ x2 + 1 ∧ x2 + 1 ≤ 2147483647 := by intros; first | assumption | omega | (split <;> omega)) : L_X12_laysNear_2 d 156 x1 x2 I S h1 :=
  
  b_X12_laysNear_2  (c_X12_degree hl0 v1) (
  b_X12_laysNear_8  (fun (c1 : I 161 (10 * x1).toNat ≤ x2) => ev_retV (e1 c1) (b_X12_laysNear_40 )) (fun (c2 : x2 < I 161 (10 * x1).toNat) => 
    b_X12_laysNear_11 (ly_X12_38 hl0) (ly_X12_21 hl0) (v2 c2) (v3 c2) (v4 c2) (v5 c2) (c_X12_degree hl0 (v6 c2)) (
    b_X12_laysNear_33 (v7 c2) (v8 c2) ((k1 c2)))))
abbrev L_X12_keeps_12 (d : Nat) (a0 : Nat) (x1 : Int) (I : Nat → Nat → Int) (S : PS) (h1 : PM) : Prop := Ev d mX12_keeps (12, [some (vR (some (22, 0, a0))), some (vI x1)], [], (I, S)) (.inl none, h1)
abbrev L_X12_keeps_52 (d : Nat) (a0 : Nat) (x1 : Int) (I : Nat → Nat → Int) (S : PS) (h1 : PM) : Prop := Ev d mX12_keeps (52, [some (vR (some (22, 0, a0))), some (vI x1)], [], (I, S)) (.inl none, h1)
theorem w_X12_keeps_0 {d : Nat} {I : Nat → Nat → Int} {S : PS} {h1 : PM} (hl0 : LyX12 S)
    (k1 : (I 156 41 ≠ 30) → L_X12_keeps_52 d 156 0 I S h1)
    (k2 : (I 156 41 = 30) → L_X12_keeps_12 d 156 18 I S h1) : Ca d mX12_keeps [vR (some (22, 0, 156))] (I, S) (.inl none) h1 :=
  Ca.of rfl rfl (
  b_X12_keeps_0  (fun (c1 : I 156 41 ≠ 30) => 
    b_X12_keeps_50  ((k1 c1))) (fun (c2 : I 156 41 = 30) => 
    b_X12_keeps_9  ((k2 c2))))
theorem w_X12_keeps_12 {d : Nat} {I : Nat → Nat → Int} {S : PS} {x1 : Int} {h1 : PM} (hl0 : LyX12 S)
    (k1 : (540 ≤ x1) → L_X12_keeps_52 d 156 0 (up2 I 156 41 (I 156 41 - 1)) S h1)
    (k2 : (x1 < 540) → L_X12_keeps_12 d 156 (x1 + 1) (up2 I 179 ((x1 - 18).toNat) (I 179 x1.toNat)) S h1)
    (v1 : (540 ≤ x1) → -2147483648 ≤ I 156 41 - 1 ∧ I 156 41 - 1 ≤ 2147483647 := by intros; first | assumption | omega | (split <;> omega))
    (v2 : (x1 < 540) → -2147483648 ≤ x1 - 18 ∧ x1 - 18 ≤ 2147483647 := by intros; first | assumption | omega | (split <;> omega))
    (v3 : (x1 < 540) → 0 ≤ x1 ∧ x1 < (540 : Nat) := by intros; first | assumption | omega | (split <;> omega))
    (v4 : (x1 < 540) → 0 ≤ x1 - 18 ∧ x1 - 18 < (540 : Nat) := by intros; first | assumption | omega | (split <;> omega))
    (v5 : (x1 < 540) → -2147483648 ≤ x1 + 1 ∧ x1 + 1 ≤ 2147483647 := by intros; first | assumption | omega | (split <;> omega)) : L_X12_keeps_12 d 156 x1 I S h1 :=
  
  b_X12_keeps_12  (fun (c1 : 540 ≤ x1) => 
    b_X12_keeps_40 (v1 c1) (
    b_X12_keeps_50  ((k1 c1)))) (fun (c2 : x1 < 540) => 
    b_X12_keeps_19 (ly_X12_40 hl0) (v2 c2) (v3 c2) (v4 c2) (v5 c2) ((k2 c2)))
theorem w_X12_keeps_52 {d : Nat} {I : Nat → Nat → Int} {S : PS} {x1 : Int} {h1 : PM} (hl0 : LyX12 S)
    (k1 : (x1 < 18) → L_X12_keeps_52 d 156 (x1 + 1) (up2 I 179 (((18 * (I 156 41)) + x1).toNat) (I 178 x1.toNat)) S h1)
    (e1 : (18 ≤ x1) → ((up2 I 156 41 (I 156 41 + 1)), S) = h1 := by intros; rfl)
    (v1 : (18 ≤ x1) → -2147483648 ≤ I 156 41 + 1 ∧ I 156 41 + 1 ≤ 2147483647 := by intros; first | assumption | omega | (split <;> omega))
    (v2 : (x1 < 18) → -2147483648 ≤ 18 * (I 156 41) ∧ 18 * (I 156 41) ≤ 2147483647 := by intros; first | assumption | omega | (split <;> omega))
    (v3 : (x1 < 18) → -2147483648 ≤ (18 * (I 156 41)) + x1 ∧ (18 * (I 156 41)) + x1 ≤ 2147483647 := by intros; first | assumption | omega | (split <;> omega))
    (v4 : (x1 < 18) → 0 ≤ x1 ∧ x1 < (36 : Nat) := by intros; first | assumption | omega | (split <;> omega))
    (v5 : (x1 < 18) → 0 ≤ (18 * (I 156 41)) + x1 ∧ (18 * (I 156 41)) + x1 < (540 : Nat) := by intros; first | assumption | omega | (split <;> omega))
    (v6 : (x1 < 18) → -2147483648 ≤ x1 + 1 ∧ x1 + 1 ≤ 2147483647 := by intros; first | assumption | omega | (split <;> omega)) : L_X12_keeps_52 d 156 x1 I S h1 :=
  
  b_X12_keeps_52  (fun (c1 : 18 ≤ x1) => ev_retV (e1 c1) (b_X12_keeps_84 (v1 c1))) (fun (c2 : x1 < 18) => 
    b_X12_keeps_58 (ly_X12_40 hl0) (v2 c2) (v3 c2) (ly_X12_39 hl0) (v4 c2) (v5 c2) (v6 c2) ((k1 c2)))
abbrev L_X12_undo_26 (d : Nat) (a0 : Nat) (x1 : Int) (I : Nat → Nat → Int) (S : PS) (v : Int) (h1 : PM) : Prop := Ev d mX12_undo (26, [some (vR (some (22, 0, a0))), some (vI x1)], [], (I, S)) (.inl (some (vI v)), h1)
theorem w_X12_undo_0 {d : Nat} {I : Nat → Nat → Int} {S : PS} {v : Int} {h1 : PM} (hl0 : LyX12 S)
    (k1 : (I 156 41 ≠ 0) → L_X12_undo_26 d 156 0 (up2 (up2 I 156 0 0) 156 41 (I 156 41 - 1)) S v h1)
    (r1 : (I 156 41 = 0) → (-1) = v)
    (e1 : (I 156 41 = 0) → ((up2 I 156 0 0), S) = h1 := by intros; rfl)
    (v1 : (I 156 41 ≠ 0) → -2147483648 ≤ I 156 41 - 1 ∧ I 156 41 - 1 ≤ 2147483647 := by intros; first | assumption | omega | (split <;> omega)) : Ca d mX12_undo [vR (some (22, 0, 156))] (I, S) (.inl (some (vI v))) h1 :=
  Ca.of rfl rfl (
  b_X12_undo_0  (fun (c1 : I 156 41 ≠ 0) => 
    b_X12_undo_14 (v1 c1) ((k1 c1))) (fun (c2 : I 156 41 = 0) => ev_ret2 (r1 c2) (e1 c2) (b_X12_undo_12 )))
theorem w_X12_undo_26 {d : Nat} {I : Nat → Nat → Int} {S : PS} {x1 : Int} {v : Int} {h1 : PM} (hl0 : LyX12 S)
    (k1 : (x1 < 18) → L_X12_undo_26 d 156 (x1 + 1) (up2 I 178 (x1.toNat) (I 179 ((18 * (I 156 41)) + x1).toNat)) S v h1)
    (r1 : (18 ≤ x1) → I 156 41 = v)
    (e1 : (18 ≤ x1) → (I, S) = h1 := by intros; rfl)
    (v1 : (x1 < 18) → -2147483648 ≤ 18 * (I 156 41) ∧ 18 * (I 156 41) ≤ 2147483647 := by intros; first | assumption | omega | (split <;> omega))
    (v2 : (x1 < 18) → -2147483648 ≤ (18 * (I 156 41)) + x1 ∧ (18 * (I 156 41)) + x1 ≤ 2147483647 := by intros; first | assumption | omega | (split <;> omega))
    (v3 : (x1 < 18) → 0 ≤ (18 * (I 156 41)) + x1 ∧ (18 * (I 156 41)) + x1 < (540 : Nat) := by intros; first | assumption | omega | (split <;> omega))
    (v4 : (x1 < 18) → 0 ≤ x1 ∧ x1 < (36 : Nat) := by intros; first | assumption | omega | (split <;> omega))
    (v5 : (x1 < 18) → -2147483648 ≤ x1 + 1 ∧ x1 + 1 ≤ 2147483647 := by intros; first | assumption | omega | (split <;> omega)) : L_X12_undo_26 d 156 x1 I S v h1 :=
  
  b_X12_undo_26  (fun (c1 : 18 ≤ x1) => ev_ret2 (r1 c1) (e1 c1) (b_X12_undo_58 )) (fun (c2 : x1 < 18) => 
    b_X12_undo_32 (ly_X12_39 hl0) (ly_X12_40 hl0) (v1 c2) (v2 c2) (v3 c2) (v4 c2) (v5 c2) ((k1 c2)))
abbrev L_X12_nearPlace_2 (d : Nat) (n0 : Nat) (a0 : Nat) (x1 : Int) (x2 : Int) (x3 : Int) (I : Nat → Nat → Int) (S : PS) (v : Int) (h1 : PM) : Prop := Ev d mX12_nearPlace (2, [some (vR (some (0, n0, a0))), some (vI x1), some (vI x2), some (vI x3)], [], (I, S)) (.inl (some (vI v)), h1)
theorem w_X12_nearPlace_0 {d : Nat} {I : Nat → Nat → Int} {S : PS} {n0 a0 : Nat} {x1 x2 : Int} {v : Int} {h1 : PM}
    (k1 : L_X12_nearPlace_2 d n0 a0 x1 x2 0 I S v h1) : Ca d mX12_nearPlace [vR (some (0, n0, a0)), vI x1, vI x2] (I, S) (.inl (some (vI v))) h1 :=
  Ca.of rfl rfl (
  b_X12_nearPlace_0  (k1))
theorem w_X12_nearPlace_2 {d : Nat} {I : Nat → Nat → Int} {S : PS} {n0 a0 : Nat} {x1 x2 x3 : Int} {v : Int} {h1 : PM}
    (k1 : (x3 < I a0 (10 * x1).toNat) → (I a0 (((10 * x1) + 1) + x3).toNat ≠ x2) → L_X12_nearPlace_2 d n0 a0 x1 x2 (x3 + 1) I S v h1)
    (r1 : (I a0 (10 * x1).toNat ≤ x3) → (-1) = v)
    (e1 : (I a0 (10 * x1).toNat ≤ x3) → (I, S) = h1 := by intros; rfl)
    (r2 : (x3 < I a0 (10 * x1).toNat) → (I a0 (((10 * x1) + 1) + x3).toNat = x2) → x3 = v)
    (e2 : (x3 < I a0 (10 * x1).toNat) → (I a0 (((10 * x1) + 1) + x3).toNat = x2) → (I, S) = h1 := by intros; rfl)
    (v1 : -2147483648 ≤ 10 * x1 ∧ 10 * x1 ≤ 2147483647 := by intros; first | assumption | omega | (split <;> omega))
    (v2 : 0 ≤ 10 * x1 ∧ 10 * x1 < (n0 : Nat) := by intros; first | assumption | omega | (split <;> omega))
    (v3 : (x3 < I a0 (10 * x1).toNat) → -2147483648 ≤ (10 * x1) + 1 ∧ (10 * x1) + 1 ≤ 2147483647 := by intros; first | assumption | omega | (split <;> omega))
    (v4 : (x3 < I a0 (10 * x1).toNat) → -2147483648 ≤ ((10 * x1) + 1) + x3 ∧ ((10 * x1) + 1) + x3 ≤ 2147483647 := by intros; first | assumption | omega | (split <;> omega))
    (v5 : (x3 < I a0 (10 * x1).toNat) → 0 ≤ ((10 * x1) + 1) + x3 ∧ ((10 * x1) + 1) + x3 < (n0 : Nat) := by intros; first | assumption | omega | (split <;> omega))
    (v6 : (x3 < I a0 (10 * x1).toNat) → (I a0 (((10 * x1) + 1) + x3).toNat ≠ x2) → -2147483648 ≤ x3 + 1 ∧ x3 + 1 ≤ 2147483647 := by intros; first | assumption | omega | (split <;> omega)) : L_X12_nearPlace_2 d n0 a0 x1 x2 x3 I S v h1 :=
  
  b_X12_nearPlace_2 v1 v2 (fun (c1 : I a0 (10 * x1).toNat ≤ x3) => ev_ret2 (r1 c1) (e1 c1) (b_X12_nearPlace_34 )) (fun (c2 : x3 < I a0 (10 * x1).toNat) => 
    b_X12_nearPlace_12 v1 (v3 c2) (v4 c2) (v5 c2) (fun (c3 : I a0 (((10 * x1) + 1) + x3).toNat ≠ x2) => 
      b_X12_nearPlace_28 (v6 c2 c3) ((k1 c2 c3))) (fun (c4 : I a0 (((10 * x1) + 1) + x3).toNat = x2) => ev_ret2 (r2 c2 c4) (e2 c2 c4) (b_X12_nearPlace_26 )))
abbrev L_X12_runsOf_4 (d : Nat) (a0 : Nat) (x1 : Int) (x2 : Int) (x3 : Int) (I : Nat → Nat → Int) (S : PS) (v : Int) (h1 : PM) : Prop := Ev d mX12_runsOf (4, [some (vR (some (22, 0, a0))), some (vI x1), some (vI x2), some (vI x3)], [], (I, S)) (.inl (some (vI v)), h1)
theorem w_X12_runsOf_0 {d : Nat} {I : Nat → Nat → Int} {S : PS} {x1 : Int} {v : Int} {h1 : PM} (hl0 : LyX12 S)
    (k1 : L_X12_runsOf_4 d 156 x1 0 0 I S v h1) : Ca d mX12_runsOf [vR (some (22, 0, 156)), vI x1] (I, S) (.inl (some (vI v))) h1 :=
  Ca.of rfl rfl (
  b_X12_runsOf_0  (k1))
theorem w_X12_runsOf_4 {d : Nat} {I : Nat → Nat → Int} {S : PS} {x1 x2 x3 : Int} {v : Int} {h1 : PM} (hl0 : LyX12 S)
    (k1 : (x3 < I 156 37) → L_X12_runsOf_4 d 156 x1 (p_or x2 (if p_and (p_shr x1 (I 176 x3.toNat)) 1 ≠ 1 then (0 : Int) else p_shl 1 x3)) (x3 + 1) I S v h1)
    (r1 : (I 156 37 ≤ x3) → x2 = v)
    (e1 : (I 156 37 ≤ x3) → (I, S) = h1 := by intros; rfl)
    (v1 : (x3 < I 156 37) → 0 ≤ x3 ∧ x3 < (7 : Nat) := by intros; first | assumption | omega | (split <;> omega))
    (v2 : (x3 < I 156 37) → -2147483648 ≤ x3 + 1 ∧ x3 + 1 ≤ 2147483647 := by intros; first | assumption | omega | (split <;> omega)) : L_X12_runsOf_4 d 156 x1 x2 x3 I S v h1 :=
  
  b_X12_runsOf_4  (fun (c1 : I 156 37 ≤ x3) => ev_ret2 (r1 c1) (e1 c1) (b_X12_runsOf_42 )) (fun (c2 : x3 < I 156 37) => 
    have K4 : ∀ us1 : Int, us1 = (if p_and (p_shr x1 (I 176 x3.toNat)) 1 ≠ 1 then (0 : Int) else p_shl 1 x3) → Ev d mX12_runsOf (34, [some (vR (some (22, 0, 156))), some (vI x1), some (vI x2), some (vI x3)], [vI us1, vI x2], (I, S)) (.inl (some (vI v)), h1) := fun us1 e_us1 => by subst e_us1; exact (
      b_X12_runsOf_34 (v2 c2) ((k1 c2)))
    
    b_X12_runsOf_12 (ly_X12_36 hl0) (v1 c2) (fun (c3 : p_and (p_shr x1 (I 176 x3.toNat)) 1 ≠ 1) => 
      b_X12_runsOf_33  (K4 0 ((if_pos c3).symm))) (fun (c4 : p_and (p_shr x1 (I 176 x3.toNat)) 1 = 1) => 
      b_X12_runsOf_27  (K4 (p_shl 1 x3) ((if_neg (fun q => q c4)).symm))))
abbrev L_X12_areParted_4 (d : Nat) (a0 : Nat) (x1 : Int) (x2 : Int) (x3 : Int) (I : Nat → Nat → Int) (S : PS) (v : Int) (h1 : PM) : Prop := Ev (d + 1) mX12_areParted (4, [some (vR (some (22, 0, a0))), some (vI x1), some (vI x2), some (vI x3), none], [], (I, S)) (.inl (some (vI v)), h1)
abbrev L_X12_areParted_12 (d : Nat) (a0 : Nat) (x1 : Int) (x2 : Int) (x3 : Int) (x4 : Int) (I : Nat → Nat → Int) (S : PS) (v : Int) (h1 : PM) : Prop := Ev (d + 1) mX12_areParted (12, [some (vR (some (22, 0, a0))), some (vI x1), some (vI x2), some (vI x3), some (vI x4)], [], (I, S)) (.inl (some (vI v)), h1)
theorem w_X12_areParted_0 {d : Nat} {I : Nat → Nat → Int} {S : PS} {x1 x2 : Int} {v : Int} {h1 : PM} (hl0 : LyX12 S)
    (k1 : L_X12_areParted_4 d 156 x1 x2 (x1 + 1) I S v h1)
    (v1 : -2147483648 ≤ x1 + 1 ∧ x1 + 1 ≤ 2147483647 := by intros; first | assumption | omega | (split <;> omega)) : Ca (d + 1) mX12_areParted [vR (some (22, 0, 156)), vI x1, vI x2] (I, S) (.inl (some (vI v))) h1 :=
  Ca.of rfl rfl (
  b_X12_areParted_0 v1 (k1))
theorem w_X12_areParted_4 {d : Nat} {I : Nat → Nat → Int} {S : PS} {x1 x2 x3 : Int} {v : Int} {h1 : PM} (hl0 : LyX12 S)
    (k1 : (x3 ≤ x2) → L_X12_areParted_12 d 156 x1 x2 x3 0 I S v h1)
    (r1 : (x2 < x3) → 0 = v)
    (e1 : (x2 < x3) → (I, S) = h1 := by intros; rfl) : L_X12_areParted_4 d 156 x1 x2 x3 I S v h1 :=
  
  b_X12_areParted_4  (fun (c1 : x2 < x3) => ev_ret2 (r1 c1) (e1 c1) (b_X12_areParted_67 )) (fun (c2 : x3 ≤ x2) => 
    b_X12_areParted_9  ((k1 c2)))
theorem w_X12_areParted_12 {d : Nat} {I : Nat → Nat → Int} {S : PS} {x1 x2 x3 x4 : Int} {v : Int} {h1 : PM} (hl0 : LyX12 S)
    (k1 : ((I 156 37 + 1) / 2 ≤ x4) → L_X12_areParted_4 d 156 x1 x2 (x3 + 1) I S v h1)
    (k2 : (x4 < (I 156 37 + 1) / 2) → (x4 ≤ x1) → (I 176 (2 * x3).toNat ≠ I 176 (2 * x4).toNat) → L_X12_areParted_12 d 156 x1 x2 x3 (x4 + 1) I S v h1)
    (k3 : (x4 < (I 156 37 + 1) / 2) → (x1 < x4) → (x4 ≤ x2) → L_X12_areParted_12 d 156 x1 x2 x3 (x4 + 1) I S v h1)
    (k4 : (x4 < (I 156 37 + 1) / 2) → (x1 < x4) → (x2 < x4) → (I 176 (2 * x3).toNat ≠ I 176 (2 * x4).toNat) → L_X12_areParted_12 d 156 x1 x2 x3 (x4 + 1) I S v h1)
    (r1 : (x4 < (I 156 37 + 1) / 2) → (x4 ≤ x1) → (I 176 (2 * x3).toNat = I 176 (2 * x4).toNat) → 1 = v)
    (e1 : (x4 < (I 156 37 + 1) / 2) → (x4 ≤ x1) → (I 176 (2 * x3).toNat = I 176 (2 * x4).toNat) → (I, S) = h1 := by intros; rfl)
    (r2 : (x4 < (I 156 37 + 1) / 2) → (x1 < x4) → (x2 < x4) → (I 176 (2 * x3).toNat = I 176 (2 * x4).toNat) → 1 = v)
    (e2 : (x4 < (I 156 37 + 1) / 2) → (x1 < x4) → (x2 < x4) → (I 176 (2 * x3).toNat = I 176 (2 * x4).toNat) → (I, S) = h1 := by intros; rfl)
    (v1 : 0 ≤ I 156 37 ∧ I 156 37 ≤ 7 := by intros; first | assumption | omega | (split <;> omega))
    (v2 : ((I 156 37 + 1) / 2 ≤ x4) → -2147483648 ≤ x3 + 1 ∧ x3 + 1 ≤ 2147483647 := by intros; first | assumption | omega | (split <;> omega))
    (v3 : (x4 < (I 156 37 + 1) / 2) → (x4 ≤ x1) → -2147483648 ≤ 2 * x3 ∧ 2 * x3 ≤ 2147483647 := by intros; first | assumption | omega | (split <;> omega))
    (v4 : (x4 < (I 156 37 + 1) / 2) → (x4 ≤ x1) → 0 ≤ 2 * x3 ∧ 2 * x3 < (7 : Nat) := by intros; first | assumption | omega | (split <;> omega))
    (v5 : (x4 < (I 156 37 + 1) / 2) → (x4 ≤ x1) → -2147483648 ≤ 2 * x4 ∧ 2 * x4 ≤ 2147483647 := by intros; first | assumption | omega | (split <;> omega))
    (v6 : (x4 < (I 156 37 + 1) / 2) → (x4 ≤ x1) → 0 ≤ 2 * x4 ∧ 2 * x4 < (7 : Nat) := by intros; first | assumption | omega | (split <;> omega))
    (v7 : (x4 < (I 156 37 + 1) / 2) → (x4 ≤ x1) → (I 176 (2 * x3).toNat ≠ I 176 (2 * x4).toNat) → -2147483648 ≤ x4 + 1 ∧ x4 + 1 ≤ 2147483647 := by intros; first | assumption | omega | (split <;> omega))
    (v8 : (x4 < (I 156 37 + 1) / 2) → (x1 < x4) → (x4 ≤ x2) → -2147483648 ≤ x4 + 1 ∧ x4 + 1 ≤ 2147483647 := by intros; first | assumption | omega | (split <;> omega))
    (v9 : (x4 < (I 156 37 + 1) / 2) → (x1 < x4) → (x2 < x4) → -2147483648 ≤ 2 * x3 ∧ 2 * x3 ≤ 2147483647 := by intros; first | assumption | omega | (split <;> omega))
    (v10 : (x4 < (I 156 37 + 1) / 2) → (x1 < x4) → (x2 < x4) → 0 ≤ 2 * x3 ∧ 2 * x3 < (7 : Nat) := by intros; first | assumption | omega | (split <;> omega))
    (v11 : (x4 < (I 156 37 + 1) / 2) → (x1 < x4) → (x2 < x4) → -2147483648 ≤ 2 * x4 ∧ 2 * x4 ≤ 2147483647 := by intros; first | assumption | omega | (split <;> omega))
    (v12 : (x4 < (I 156 37 + 1) / 2) → (x1 < x4) → (x2 < x4) → 0 ≤ 2 * x4 ∧ 2 * x4 < (7 : Nat) := by intros; first | assumption | omega | (split <;> omega))
    (v13 : (x4 < (I 156 37 + 1) / 2) → (x1 < x4) → (x2 < x4) → (I 176 (2 * x3).toNat ≠ I 176 (2 * x4).toNat) → -2147483648 ≤ x4 + 1 ∧ x4 + 1 ≤ 2147483647 := by intros; first | assumption | omega | (split <;> omega)) : L_X12_areParted_12 d 156 x1 x2 x3 x4 I S v h1 :=
  
  b_X12_areParted_12  (c_X12_firsts hl0 v1) (
  b_X12_areParted_18  (fun (c1 : (I 156 37 + 1) / 2 ≤ x4) => 
    b_X12_areParted_61 (v2 c1) ((k1 c1))) (fun (c2 : x4 < (I 156 37 + 1) / 2) => 
    b_X12_areParted_21  (fun (c3 : x4 ≤ x1) => 
      b_X12_areParted_33 (ly_X12_36 hl0) (v3 c2 c3) (v4 c2 c3) (v5 c2 c3) (v6 c2 c3) (fun (c5 : I 176 (2 * x3).toNat ≠ I 176 (2 * x4).toNat) => 
        b_X12_areParted_55 (v7 c2 c3 c5) ((k2 c2 c3 c5))) (fun (c6 : I 176 (2 * x3).toNat = I 176 (2 * x4).toNat) => ev_ret2 (r1 c2 c3 c6) (e1 c2 c3 c6) (b_X12_areParted_53 ))) (fun (c4 : x1 < x4) => 
      b_X12_areParted_27  (fun (c7 : x4 ≤ x2) => 
        b_X12_areParted_55 (v8 c2 c4 c7) ((k3 c2 c4 c7))) (fun (c8 : x2 < x4) => 
        b_X12_areParted_33 (ly_X12_36 hl0) (v9 c2 c4 c8) (v10 c2 c4 c8) (v11 c2 c4 c8) (v12 c2 c4 c8) (fun (c9 : I 176 (2 * x3).toNat ≠ I 176 (2 * x4).toNat) => 
          b_X12_areParted_55 (v13 c2 c4 c8 c9) ((k4 c2 c4 c8 c9))) (fun (c10 : I 176 (2 * x3).toNat = I 176 (2 * x4).toNat) => ev_ret2 (r2 c2 c4 c8 c10) (e2 c2 c4 c8 c10) (b_X12_areParted_53 ))))))
end
