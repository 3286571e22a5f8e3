noncomputable section
abbrev L_X2_colourAt_2 (d : Nat) (a0 : Nat) (x1 : Int) (x2 : Int) (I : Nat → Nat → Int) (S : PS) (v : Int) (h1 : PM) : Prop := Ev d mX2_colourAt (2, [some (vR (some (13, 0, a0))), some (vI x1), some (vI x2)], [], (I, S)) (.inl (some (vI v)), h1)
theorem w_X2_colourAt_0 {d : Nat} {I : Nat → Nat → Int} {S : PS} {a0 : Nat} {x1 : Int} {v : Int} {h1 : PM} (hl0 : LyX2 S a0)
    (k1 : L_X2_colourAt_2 d a0 x1 0 I S v h1) : Ca d mX2_colourAt [vR (some (13, 0, a0)), vI x1] (I, S) (.inl (some (vI v))) h1 :=
  Ca.of rfl rfl (
  b_X2_colourAt_0  (k1))
theorem w_X2_colourAt_2 {d : Nat} {I : Nat → Nat → Int} {S : PS} {a0 : Nat} {x1 x2 : Int} {v : Int} {h1 : PM} (hl0 : LyX2 S a0)
    (k1 : (x2 < 4) → (p_and (p_shr (I (a0 + 1) x2.toNat) x1) 1 = 0) → L_X2_colourAt_2 d a0 x1 (x2 + 1) I S v h1)
    (r1 : (4 ≤ x2) → (-1) = v)
    (e1 : (4 ≤ x2) → (I, S) = h1 := by intros; rfl)
    (r2 : (x2 < 4) → (p_and (p_shr (I (a0 + 1) x2.toNat) x1) 1 ≠ 0) → x2 = v)
    (e2 : (x2 < 4) → (p_and (p_shr (I (a0 + 1) x2.toNat) x1) 1 ≠ 0) → (I, S) = h1 := by intros; rfl)
    (v1 : (x2 < 4) → 0 ≤ x2 ∧ x2 < (4 : Nat) := by intros; first | assumption | omega | (split <;> omega))
    (v2 : (x2 < 4) → (p_and (p_shr (I (a0 + 1) x2.toNat) x1) 1 = 0) → -2147483648 ≤ x2 + 1 ∧ x2 + 1 ≤ 2147483647 := by intros; first | assumption | omega | (split <;> omega)) : L_X2_colourAt_2 d a0 x1 x2 I S v h1 :=
  
  b_X2_colourAt_2  (fun (c1 : 4 ≤ x2) => ev_ret2 (r1 c1) (e1 c1) (b_X2_colourAt_28 )) (fun (c2 : x2 < 4) => 
    b_X2_colourAt_7 (ly_X2_0 hl0) (v1 c2) (fun (c3 : p_and (p_shr (I (a0 + 1) x2.toNat) x1) 1 = 0) => 
      b_X2_colourAt_22 (v2 c2 c3) ((k1 c2 c3))) (fun (c4 : p_and (p_shr (I (a0 + 1) x2.toNat) x1) 1 ≠ 0) => ev_ret2 (r2 c2 c4) (e2 c2 c4) (b_X2_colourAt_20 )))
abbrev L_X2_freeColours_5 (d : Nat) (a0 : Nat) (a1 : Nat) (x2 : Int) (x3 : Int) (x4 : Int) (I : Nat → Nat → Int) (S : PS) (v : Int) (h1 : PM) : Prop := Ev d mX2_freeColours (5, [some (vR (some (13, 0, a0))), some (vR (some (11, 0, a1))), some (vI x2), some (vI x3), some (vI x4)], [], (I, S)) (.inl (some (vI v)), h1)
theorem w_X2_freeColours_0 {d : Nat} {I : Nat → Nat → Int} {S : PS} {a0 a1 : Nat} {x2 : Int} {v : Int} {h1 : PM} (hl0 : LyX2 S a0) (hl1 : LyX0 S a1)
    (k1 : L_X2_freeColours_5 d a0 a1 x2 0 0 I S v h1) : Ca d mX2_freeColours [vR (some (13, 0, a0)), vR (some (11, 0, a1)), vI x2] (I, S) (.inl (some (vI v))) h1 :=
  Ca.of rfl rfl (
  b_X2_freeColours_0  (k1))
theorem w_X2_freeColours_5 {d : Nat} {I : Nat → Nat → Int} {S : PS} {a0 a1 : Nat} {x2 x3 x4 : Int} {v : Int} {h1 : PM} (hl0 : LyX2 S a0) (hl1 : LyX0 S a1)
    (k1 : (x4 < 4) → L_X2_freeColours_5 d a0 a1 x2 (if p_and (I (a0 + 1) x4.toNat) (I (a1 + 5) x2.toNat) ≠ 0 then (x3 : Int) else p_or x3 (p_shl 1 x4)) (x4 + 1) I S v h1)
    (r1 : (4 ≤ x4) → x3 = v)
    (e1 : (4 ≤ x4) → (I, S) = h1 := by intros; rfl)
    (v1 : (x4 < 4) → 0 ≤ x4 ∧ x4 < (4 : Nat) := by intros; first | assumption | omega | (split <;> omega))
    (v2 : (x4 < 4) → 0 ≤ x2 ∧ x2 < (12 : Nat) := by intros; first | assumption | omega | (split <;> omega))
    (v3 : (x4 < 4) → -2147483648 ≤ x4 + 1 ∧ x4 + 1 ≤ 2147483647 := by intros; first | assumption | omega | (split <;> omega)) : L_X2_freeColours_5 d a0 a1 x2 x3 x4 I S v h1 :=
  
  b_X2_freeColours_5  (fun (c1 : 4 ≤ x4) => ev_ret2 (r1 c1) (e1 c1) (b_X2_freeColours_41 )) (fun (c2 : x4 < 4) => 
    have K4 : ∀ u3 : Int, u3 = (if p_and (I (a0 + 1) x4.toNat) (I (a1 + 5) x2.toNat) ≠ 0 then (x3 : Int) else p_or x3 (p_shl 1 x4)) → Ev d mX2_freeColours (35, [some (vR (some (13, 0, a0))), some (vR (some (11, 0, a1))), some (vI x2), some (vI u3), some (vI x4)], [], (I, S)) (.inl (some (vI v)), h1) := fun u3 e_u3 => by subst e_u3; exact (
      b_X2_freeColours_35 (v3 c2) ((k1 c2)))
    
    b_X2_freeColours_11 (ly_X2_0 hl0) (v1 c2) (ly_X0_4 hl1) (v2 c2) (fun (c3 : p_and (I (a0 + 1) x4.toNat) (I (a1 + 5) x2.toNat) ≠ 0) => K4 x3 ((if_pos c3).symm)) (fun (c4 : p_and (I (a0 + 1) x4.toNat) (I (a1 + 5) x2.toNat) = 0) => 
      b_X2_freeColours_28  (K4 (p_or x3 (p_shl 1 x4)) ((if_neg (fun q => q c4)).symm))))
abbrev L_X2_unlikeColours_4 (d : Nat) (a0 : Nat) (x1 : Int) (x2 : Int) (I : Nat → Nat → Int) (S : PS) (v : Int) (h1 : PM) : Prop := Ev d mX2_unlikeColours (4, [some (vR (some (13, 0, a0))), some (vI x1), some (vI x2)], [], (I, S)) (.inl (some (vI v)), h1)
theorem w_X2_unlikeColours_0 {d : Nat} {I : Nat → Nat → Int} {S : PS} {a0 : Nat} {v : Int} {h1 : PM} (hl0 : LyX2 S a0)
    (k1 : L_X2_unlikeColours_4 d a0 0 0 I S v h1) : Ca d mX2_unlikeColours [vR (some (13, 0, a0))] (I, S) (.inl (some (vI v))) h1 :=
  Ca.of rfl rfl (
  b_X2_unlikeColours_0  (k1))
theorem w_X2_unlikeColours_4 {d : Nat} {I : Nat → Nat → Int} {S : PS} {a0 : Nat} {x1 x2 : Int} {v : Int} {h1 : PM} (hl0 : LyX2 S a0)
    (k1 : (x2 < 4) → L_X2_unlikeColours_4 d a0 (if I (a0 + 1) x2.toNat = 0 then (x1 : Int) else x1 + 1) (x2 + 1) I S v h1)
    (r1 : (4 ≤ x2) → x1 = v)
    (e1 : (4 ≤ x2) → (I, S) = h1 := by intros; rfl)
    (v1 : (x2 < 4) → 0 ≤ x2 ∧ x2 < (4 : Nat) := by intros; first | assumption | omega | (split <;> omega))
    (v2 : (x2 < 4) → (I (a0 + 1) x2.toNat ≠ 0) → -2147483648 ≤ x1 + 1 ∧ x1 + 1 ≤ 2147483647 := by intros; first | assumption | omega | (split <;> omega))
    (v3 : (x2 < 4) → -2147483648 ≤ x2 + 1 ∧ x2 + 1 ≤ 2147483647 := by intros; first | assumption | omega | (split <;> omega)) : L_X2_unlikeColours_4 d a0 x1 x2 I S v h1 :=
  
  b_X2_unlikeColours_4  (fun (c1 : 4 ≤ x2) => ev_ret2 (r1 c1) (e1 c1) (b_X2_unlikeColours_27 )) (fun (c2 : x2 < 4) => 
    have K4 : ∀ u1 : Int, u1 = (if I (a0 + 1) x2.toNat = 0 then (x1 : Int) else x1 + 1) → Ev d mX2_unlikeColours (21, [some (vR (some (13, 0, a0))), some (vI u1), some (vI x2)], [], (I, S)) (.inl (some (vI v)), h1) := fun u1 e_u1 => by subst e_u1; exact (
      b_X2_unlikeColours_21 (v3 c2) ((k1 c2)))
    
    b_X2_unlikeColours_9 (ly_X2_0 hl0) (v1 c2) (fun (c3 : I (a0 + 1) x2.toNat = 0) => K4 x1 ((if_pos c3).symm)) (fun (c4 : I (a0 + 1) x2.toNat ≠ 0) => 
      b_X2_unlikeColours_18 (v2 c2 c4) (K4 (x1 + 1) ((if_neg c4).symm))))
abbrev L_X12_painted_4 (d : Nat) (a0 : Nat) (x1 : Int) (x2 : Int) (x3 : Int) (I : Nat → Nat → Int) (S : PS) (v : Int) (h1 : PM) : Prop := Ev d mX12_painted (4, [some (vR (some (22, 0, a0))), some (vI x1), some (vI x2), some (vI x3)], [], (I, S)) (.inl (some (vI v)), h1)
theorem w_X12_painted_0 {d : Nat} {I : Nat → Nat → Int} {S : PS} {x1 : Int} {v : Int} {h1 : PM} (hl0 : LyX12 S)
    (k1 : L_X12_painted_4 d 156 x1 0 0 I S v h1) : Ca d mX12_painted [vR (some (22, 0, 156)), vI x1] (I, S) (.inl (some (vI v))) h1 :=
  Ca.of rfl rfl (
  b_X12_painted_0  (k1))
theorem w_X12_painted_4 {d : Nat} {I : Nat → Nat → Int} {S : PS} {x1 x2 x3 : Int} {v : Int} {h1 : PM} (hl0 : LyX12 S)
    (k1 : (x3 < I 156 15) → L_X12_painted_4 d 156 x1 (x2 + (if I 178 (x1 + x3).toNat ≠ (-1) then (1 : Int) else 0)) (x3 + 1) I S v h1)
    (r1 : (I 156 15 ≤ x3) → x2 = v)
    (e1 : (I 156 15 ≤ x3) → (I, S) = h1 := by intros; rfl)
    (v1 : (x3 < I 156 15) → -2147483648 ≤ x1 + x3 ∧ x1 + x3 ≤ 2147483647 := by intros; first | assumption | omega | (split <;> omega))
    (v2 : (x3 < I 156 15) → 0 ≤ x1 + x3 ∧ x1 + x3 < (36 : Nat) := by intros; first | assumption | omega | (split <;> omega))
    (v3 : (x3 < I 156 15) → -2147483648 ≤ x2 + (if I 178 (x1 + x3).toNat ≠ (-1) then (1 : Int) else 0) ∧ x2 + (if I 178 (x1 + x3).toNat ≠ (-1) then (1 : Int) else 0) ≤ 2147483647 := by intros; first | assumption | omega | (split <;> omega))
    (v4 : (x3 < I 156 15) → -2147483648 ≤ x3 + 1 ∧ x3 + 1 ≤ 2147483647 := by intros; first | assumption | omega | (split <;> omega)) : L_X12_painted_4 d 156 x1 x2 x3 I S v h1 :=
  
  b_X12_painted_4  (fun (c1 : I 156 15 ≤ x3) => ev_ret2 (r1 c1) (e1 c1) (b_X12_painted_38 )) (fun (c2 : x3 < I 156 15) => 
    have K4 : ∀ us1 : Int, us1 = (if I 178 (x1 + x3).toNat ≠ (-1) then (1 : Int) else 0) → Ev d mX12_painted (30, [some (vR (some (22, 0, 156))), some (vI x1), some (vI x2), some (vI x3)], [vI us1, vI x2], (I, S)) (.inl (some (vI v)), h1) := fun us1 e_us1 => by subst e_us1; exact (
      b_X12_painted_30 (v3 c2) (v4 c2) ((k1 c2)))
    
    b_X12_painted_12 (ly_X12_39 hl0) (v1 c2) (v2 c2) (fun (c3 : I 178 (x1 + x3).toNat ≠ (-1)) => 
      b_X12_painted_29  (K4 1 (if_pos c3).symm)) (fun (c4 : I 178 (x1 + x3).toNat = (-1)) => 
      b_X12_painted_25  (K4 0 (if_neg (fun q => q c4)).symm)))
abbrev L_X12_freeFor_6 (d : Nat) (a0 : Nat) (x1 : Int) (x2 : Int) (x3 : Int) (x4 : Int) (I : Nat → Nat → Int) (S : PS) (v : Int) (h1 : PM) : Prop := Ev (d + 1) mX12_freeFor (6, [some (vR (some (22, 0, a0))), some (vI x1), some (vI x2), some (vI x3), some (vI x4), none], [], (I, S)) (.inl (some (vI v)), h1)
theorem w_X12_freeFor_0 {d : Nat} {I : Nat → Nat → Int} {S : PS} {x1 x2 : Int} {v : Int} {h1 : PM} (hl0 : LyX12 S)
    (k1 : L_X12_freeFor_6 d 156 x1 x2 15 0 I S v h1) : Ca (d + 1) mX12_freeFor [vR (some (22, 0, 156)), vI x1, vI x2] (I, S) (.inl (some (vI v))) h1 :=
  Ca.of rfl rfl (
  b_X12_freeFor_0  (k1))
theorem w_X12_freeFor_6 {d : Nat} {I : Nat → Nat → Int} {S : PS} {x1 x2 x3 x4 : Int} {v : Int} {h1 : PM} (hl0 : LyX12 S)
    (k1 : (x4 < I 161 (10 * x2).toNat) → L_X12_freeFor_6 d 156 x1 x2 (if I 178 (x1 + (I 161 (((10 * x2) + 1) + x4).toNat)).toNat = (-1) then (x3 : Int) else p_and x3 (p_xor (p_shl 1 (I 178 (x1 + (I 161 (((10 * x2) + 1) + x4).toNat)).toNat)) (-1))) (x4 + 1) I S v h1)
    (r1 : (I 161 (10 * x2).toNat ≤ x4) → x3 = v)
    (e1 : (I 161 (10 * x2).toNat ≤ x4) → (I, S) = h1 := by intros; rfl)
    (v1 : 0 ≤ x2 ∧ x2 < 12 := by intros; first | assumption | omega | (split <;> omega))
    (v2 : (x4 < I 161 (10 * x2).toNat) → -2147483648 ≤ 10 * x2 ∧ 10 * x2 ≤ 2147483647 := by intros; first | assumption | omega | (split <;> omega))
    (v3 : (x4 < I 161 (10 * x2).toNat) → -2147483648 ≤ (10 * x2) + 1 ∧ (10 * x2) + 1 ≤ 2147483647 := by intros; first | assumption | omega | (split <;> omega))
    (v4 : (x4 < I 161 (10 * x2).toNat) → -2147483648 ≤ ((10 * x2) + 1) + x4 ∧ ((10 * x2) + 1) + x4 ≤ 2147483647 := by intros; first | assumption | omega | (split <;> omega))
    (v5 : (x4 < I 161 (10 * x2).toNat) → 0 ≤ ((10 * x2) + 1) + x4 ∧ ((10 * x2) + 1) + x4 < (120 : Nat) := by intros; first | assumption | omega | (split <;> omega))
    (v6 : (x4 < I 161 (10 * x2).toNat) → -2147483648 ≤ x1 + (I 161 (((10 * x2) + 1) + x4).toNat) ∧ x1 + (I 161 (((10 * x2) + 1) + x4).toNat) ≤ 2147483647 := by intros; first | assumption | omega | (split <;> omega))
    (v7 : (x4 < I 161 (10 * x2).toNat) → 0 ≤ x1 + (I 161 (((10 * x2) + 1) + x4).toNat) ∧ x1 + (I 161 (((10 * x2) + 1) + x4).toNat) < (36 : Nat) := by intros; first | assumption | omega | (split <;> omega))
    (v8 : (x4 < I 161 (10 * x2).toNat) → -2147483648 ≤ x4 + 1 ∧ x4 + 1 ≤ 2147483647 := by intros; first | assumption | omega | (split <;> omega)) : L_X12_freeFor_6 d 156 x1 x2 x3 x4 I S v h1 :=
  
  b_X12_freeFor_6  (c_X12_degree hl0 v1) (
  b_X12_freeFor_13  (fun (c1 : I 161 (10 * x2).toNat ≤ x4) => ev_ret2 (r1 c1) (e1 c1) (b_X12_freeFor_60 )) (fun (c2 : x4 < I 161 (10 * x2).toNat) => 
    have K4 : ∀ u3 : Int, u3 = (if I 178 (x1 + (I 161 (((10 * x2) + 1) + x4).toNat)).toNat = (-1) then (x3 : Int) else p_and x3 (p_xor (p_shl 1 (I 178 (x1 + (I 161 (((10 * x2) + 1) + x4).toNat)).toNat)) (-1))) → Ev (d + 1) mX12_freeFor (54, [some (vR (some (22, 0, 156))), some (vI x1), some (vI x2), some (vI u3), some (vI x4), some (vI (I 178 (x1 + (I 161 (((10 * x2) + 1) + x4).toNat)).toNat))], [], (I, S)) (.inl (some (vI v)), h1) := fun u3 e_u3 => by subst e_u3; exact (
      b_X12_freeFor_54 (v8 c2) ((k1 c2)))
    
    b_X12_freeFor_16 (ly_X12_39 hl0) (ly_X12_21 hl0) (v2 c2) (v3 c2) (v4 c2) (v5 c2) (v6 c2) (v7 c2) (fun (c3 : I 178 (x1 + (I 161 (((10 * x2) + 1) + x4).toNat)).toNat = (-1)) => K4 x3 ((if_pos c3).symm)) (fun (c4 : I 178 (x1 + (I 161 (((10 * x2) + 1) + x4).toNat)).toNat ≠ (-1)) => 
      b_X12_freeFor_45  (K4 (p_and x3 (p_xor (p_shl 1 (I 178 (x1 + (I 161 (((10 * x2) + 1) + x4).toNat)).toNat)) (-1))) ((if_neg c4).symm)))))
abbrev L_X12_nearOnes_4 (d : Nat) (a0 : Nat) (x1 : Int) (x2 : Int) (x3 : Int) (I : Nat → Nat → Int) (S : PS) (v : Int) (h1 : PM) : Prop := Ev (d + 1) mX12_nearOnes (4, [some (vR (some (22, 0, a0))), some (vI x1), some (vI x2), some (vI x3)], [], (I, S)) (.inl (some (vI v)), h1)
theorem w_X12_nearOnes_0 {d : Nat} {I : Nat → Nat → Int} {S : PS} {x1 : Int} {v : Int} {h1 : PM} (hl0 : LyX12 S)
    (k1 : L_X12_nearOnes_4 d 156 x1 0 0 I S v h1) : Ca (d + 1) mX12_nearOnes [vR (some (22, 0, 156)), vI x1] (I, S) (.inl (some (vI v))) h1 :=
  Ca.of rfl rfl (
  b_X12_nearOnes_0  (k1))
theorem w_X12_nearOnes_4 {d : Nat} {I : Nat → Nat → Int} {S : PS} {x1 x2 x3 : Int} {v : Int} {h1 : PM} (hl0 : LyX12 S)
    (k1 : (x3 < I 161 (10 * x1).toNat) → L_X12_nearOnes_4 d 156 x1 (p_or x2 (p_shl 1 (I 161 (((10 * x1) + 1) + x3).toNat))) (x3 + 1) I S v h1)
    (r1 : (I 161 (10 * x1).toNat ≤ x3) → x2 = v)
    (e1 : (I 161 (10 * x1).toNat ≤ x3) → (I, S) = h1 := by intros; rfl)
    (v1 : 0 ≤ x1 ∧ x1 < 12 := by intros; first | assumption | omega | (split <;> omega))
    (v2 : (x3 < I 161 (10 * x1).toNat) → -2147483648 ≤ 10 * x1 ∧ 10 * x1 ≤ 2147483647 := by intros; first | assumption | omega | (split <;> omega))
    (v3 : (x3 < I 161 (10 * x1).toNat) → -2147483648 ≤ (10 * x1) + 1 ∧ (10 * x1) + 1 ≤ 2147483647 := by intros; first | assumption | omega | (split <;> omega))
    (v4 : (x3 < I 161 (10 * x1).toNat) → -2147483648 ≤ ((10 * x1) + 1) + x3 ∧ ((10 * x1) + 1) + x3 ≤ 2147483647 := by intros; first | assumption | omega | (split <;> omega))
    (v5 : (x3 < I 161 (10 * x1).toNat) → 0 ≤ ((10 * x1) + 1) + x3 ∧ ((10 * x1) + 1) + x3 < (120 : Nat) := by intros; first | assumption | omega | (split <;> omega))
    (v6 : (x3 < I 161 (10 * x1).toNat) → -2147483648 ≤ x3 + 1 ∧ x3 + 1 ≤ 2147483647 := by intros; first | assumption | omega | (split <;> omega)) : L_X12_nearOnes_4 d 156 x1 x2 x3 I S v h1 :=
  
  b_X12_nearOnes_4  (c_X12_degree hl0 v1) (
  b_X12_nearOnes_10  (fun (c1 : I 161 (10 * x1).toNat ≤ x3) => ev_ret2 (r1 c1) (e1 c1) (b_X12_nearOnes_37 )) (fun (c2 : x3 < I 161 (10 * x1).toNat) => 
    b_X12_nearOnes_13 (ly_X12_21 hl0) (v2 c2) (v3 c2) (v4 c2) (v5 c2) (v6 c2) ((k1 c2))))
abbrev L_X12_tries_2 (d : Nat) (a0 : Nat) (x1 : Int) (I : Nat → Nat → Int) (S : PS) (h1 : PM) : Prop := Ev d mX12_tries (2, [some (vR (some (22, 0, a0))), some (vI x1)], [], (I, S)) (.inl none, h1)
theorem w_X12_tries_0 {d : Nat} {I : Nat → Nat → Int} {S : PS} {h1 : PM} (hl0 : LyX12 S)
    (k1 : L_X12_tries_2 d 156 0 I S h1) : Ca d mX12_tries [vR (some (22, 0, 156))] (I, S) (.inl none) h1 :=
  Ca.of rfl rfl (
  b_X12_tries_0  (k1))
theorem w_X12_tries_2 {d : Nat} {I : Nat → Nat → Int} {S : PS} {x1 : Int} {h1 : PM} (hl0 : LyX12 S)
    (k1 : (x1 < 18) → L_X12_tries_2 d 156 (x1 + 1) (up2 I 178 ((18 + x1).toNat) (I 178 x1.toNat)) S h1)
    (e1 : (18 ≤ x1) → (I, S) = h1 := by intros; rfl)
    (v1 : (x1 < 18) → -2147483648 ≤ 18 + x1 ∧ 18 + x1 ≤ 2147483647 := by intros; first | assumption | omega | (split <;> omega))
    (v2 : (x1 < 18) → 0 ≤ x1 ∧ x1 < (36 : Nat) := by intros; first | assumption | omega | (split <;> omega))
    (v3 : (x1 < 18) → 0 ≤ 18 + x1 ∧ 18 + x1 < (36 : Nat) := by intros; first | assumption | omega | (split <;> omega))
    (v4 : (x1 < 18) → -2147483648 ≤ x1 + 1 ∧ x1 + 1 ≤ 2147483647 := by intros; first | assumption | omega | (split <;> omega)) : L_X12_tries_2 d 156 x1 I S h1 :=
  
  b_X12_tries_2  (fun (c1 : 18 ≤ x1) => ev_retV (e1 c1) (b_X12_tries_29 )) (fun (c2 : x1 < 18) => 
    b_X12_tries_8 (ly_X12_39 hl0) (v1 c2) (v2 c2) (v3 c2) (v4 c2) ((k1 c2)))
abbrev L_X12_copies_2 (d : Nat) (a0 : Nat) (n1 : Nat) (a1 : Nat) (n2 : Nat) (a2 : Nat) (x3 : Int) (I : Nat → Nat → Int) (S : PS) (h1 : PM) : Prop := Ev d mX12_copies (2, [some (vR (some (22, 0, a0))), some (vR (some (0, n1, a1))), some (vR (some (0, n2, a2))), some (vI x3)], [], (I, S)) (.inl none, h1)
theorem w_X12_copies_0 {d : Nat} {I : Nat → Nat → Int} {S : PS} {n1 a1 n2 a2 : Nat} {h1 : PM} (hl0 : LyX12 S)
    (k1 : L_X12_copies_2 d 156 n1 a1 n2 a2 0 I S h1) : Ca d mX12_copies [vR (some (22, 0, 156)), vR (some (0, n1, a1)), vR (some (0, n2, a2))] (I, S) (.inl none) h1 :=
  Ca.of rfl rfl (
  b_X12_copies_0  (k1))
theorem w_X12_copies_2 {d : Nat} {I : Nat → Nat → Int} {S : PS} {n1 a1 n2 a2 : Nat} {x3 : Int} {h1 : PM} (hl0 : LyX12 S)
    (k1 : (x3 < (n1 : Int)) → L_X12_copies_2 d 156 n1 a1 n2 a2 (x3 + 1) (up2 I a2 (x3.toNat) (I a1 x3.toNat)) S h1)
    (e1 : ((n1 : Int) ≤ x3) → (I, S) = h1 := by intros; rfl)
    (v1 : n1 ≤ 100000 := by intros; first | assumption | omega | (split <;> omega))
    (v2 : (x3 < (n1 : Int)) → 0 ≤ x3 ∧ x3 < (n1 : Nat) := by intros; first | assumption | omega | (split <;> omega))
    (v3 : (x3 < (n1 : Int)) → 0 ≤ x3 ∧ x3 < (n2 : Nat) := by intros; first | assumption | omega | (split <;> omega))
    (v4 : (x3 < (n1 : Int)) → -2147483648 ≤ x3 + 1 ∧ x3 + 1 ≤ 2147483647 := by intros; first | assumption | omega | (split <;> omega)) : L_X12_copies_2 d 156 n1 a1 n2 a2 x3 I S h1 :=
  
  b_X12_copies_2 v1 (fun (c1 : (n1 : Int) ≤ x3) => ev_retV (e1 c1) (b_X12_copies_20 )) (fun (c2 : x3 < (n1 : Int)) => 
    b_X12_copies_8 (v2 c2) (v3 c2) (v4 c2) ((k1 c2)))
abbrev L_X12_bits_4 (d : Nat) (x0 : Int) (x1 : Int) (x2 : Int) (I : Nat → Nat → Int) (S : PS) (v : Int) (h1 : PM) : Prop := Ev d mX12_bits (4, [some (vI x0), some (vI x1), some (vI x2)], [], (I, S)) (.inl (some (vI v)), h1)
theorem w_X12_bits_0 {d : Nat} {I : Nat → Nat → Int} {S : PS} {x0 : Int} {v : Int} {h1 : PM}
    (k1 : L_X12_bits_4 d x0 0 0 I S v h1) : Ca d mX12_bits [vI x0] (I, S) (.inl (some (vI v))) h1 :=
  Ca.of rfl rfl (
  b_X12_bits_0  (k1))
theorem w_X12_bits_4 {d : Nat} {I : Nat → Nat → Int} {S : PS} {x0 x1 x2 : Int} {v : Int} {h1 : PM}
    (k1 : (x2 < 15) → L_X12_bits_4 d x0 (x1 + (p_and (p_shr x0 x2) 1)) (x2 + 1) I S v h1)
    (r1 : (15 ≤ x2) → x1 = v)
    (e1 : (15 ≤ x2) → (I, S) = h1 := by intros; rfl)
    (v1 : (x2 < 15) → -2147483648 ≤ x1 + (p_and (p_shr x0 x2) 1) ∧ x1 + (p_and (p_shr x0 x2) 1) ≤ 2147483647 := by intros; first | assumption | omega | (split <;> omega))
    (v2 : (x2 < 15) → -2147483648 ≤ x2 + 1 ∧ x2 + 1 ≤ 2147483647 := by intros; first | assumption | omega | (split <;> omega)) : L_X12_bits_4 d x0 x1 x2 I S v h1 :=
  
  b_X12_bits_4  (fun (c1 : 15 ≤ x2) => ev_ret2 (r1 c1) (e1 c1) (b_X12_bits_24 )) (fun (c2 : x2 < 15) => 
    b_X12_bits_10 (v1 c2) (v2 c2) ((k1 c2)))
abbrev L_X12_lays_3 (d : Nat) (a0 : Nat) (x1 : Int) (x2 : Int) (I : Nat → Nat → Int) (S : PS) (h1 : PM) : Prop := Ev d mX12_lays (3, [some (vR (some (22, 0, a0))), some (vI x1), some (vI x2)], [], (I, S)) (.inl none, h1)
theorem w_X12_lays_0 {d : Nat} {I : Nat → Nat → Int} {S : PS} {x1 : Int} {h1 : PM} (hl0 : LyX12 S)
    (k1 : L_X12_lays_3 d 156 x1 24 I S h1) : Ca d mX12_lays [vR (some (22, 0, 156)), vI x1] (I, S) (.inl none) h1 :=
  Ca.of rfl rfl (
  b_X12_lays_0  (k1))
theorem w_X12_lays_3 {d : Nat} {I : Nat → Nat → Int} {S : PS} {x1 x2 : Int} {h1 : PM} (hl0 : LyX12 S)
    (k1 : (0 ≤ x2) → L_X12_lays_3 d 156 x1 (x2 - 8) (up2 (up2 I 157 ((I 156 2).toNat) (p_and (p_shr x1 x2) 255)) 156 2 (I 156 2 + 1)) S h1)
    (e1 : (x2 < 0) → (I, S) = h1 := by intros; rfl)
    (v1 : (0 ≤ x2) → 0 ≤ I 156 2 ∧ I 156 2 < (700 : Nat) := by intros; first | assumption | omega | (split <;> omega))
    (v2 : (0 ≤ x2) → -2147483648 ≤ I 156 2 + 1 ∧ I 156 2 + 1 ≤ 2147483647 := by intros; first | assumption | omega | (split <;> omega))
    (v3 : (0 ≤ x2) → -2147483648 ≤ x2 - 8 ∧ x2 - 8 ≤ 2147483647 := by intros; first | assumption | omega | (split <;> omega)) : L_X12_lays_3 d 156 x1 x2 I S h1 :=
  
  b_X12_lays_3  (fun (c1 : x2 < 0) => ev_retV (e1 c1) (b_X12_lays_39 )) (fun (c2 : 0 ≤ x2) => 
    b_X12_lays_7 (ly_X12_1 hl0) (v1 c2) (v2 c2) (v3 c2) ((k1 c2)))
abbrev L_X11_putBytes_3 (d : Nat) (a0 : Nat) (x1 : Int) (x2 : Int) (I : Nat → Nat → Int) (S : PS) (h1 : PM) : Prop := Ev d mX11_putBytes (3, [some (vR (some (21, 0, a0))), some (vI x1), some (vI x2)], [], (I, S)) (.inl none, h1)
theorem w_X11_putBytes_0 {d : Nat} {I : Nat → Nat → Int} {S : PS} {x1 : Int} {T U : Nat} {h1 : PM} (hl0 : LyX11 S T U)
    (k1 : L_X11_putBytes_3 d 31 x1 24 I S h1) : Ca d mX11_putBytes [vR (some (21, 0, 31)), vI x1] (I, S) (.inl none) h1 :=
  Ca.of rfl rfl (
  b_X11_putBytes_0  (k1))
theorem w_X11_putBytes_3 {d : Nat} {I : Nat → Nat → Int} {S : PS} {x1 x2 : Int} {T U : Nat} {h1 : PM} (hl0 : LyX11 S T U)
    (k1 : (0 ≤ x2) → (I 31 1 < 700) → L_X11_putBytes_3 d 31 x1 (x2 - 8) (up2 (up2 I 33 ((I 31 1).toNat) (p_i2b (p_i2b (p_shr x1 x2)))) 31 1 (I 31 1 + 1)) S h1)
    (e1 : (x2 < 0) → (I, S) = h1 := by intros; rfl)
    (e2 : (0 ≤ x2) → (700 ≤ I 31 1) → (I, S) = h1 := by intros; rfl)
    (v1 : (0 ≤ x2) → (I 31 1 < 700) → 0 ≤ I 31 1 ∧ I 31 1 < (700 : Nat) := by intros; first | assumption | omega | (split <;> omega))
    (v2 : (0 ≤ x2) → (I 31 1 < 700) → -2147483648 ≤ I 31 1 + 1 ∧ I 31 1 + 1 ≤ 2147483647 := by intros; first | assumption | omega | (split <;> omega))
    (v3 : (0 ≤ x2) → (I 31 1 < 700) → -2147483648 ≤ x2 - 8 ∧ x2 - 8 ≤ 2147483647 := by intros; first | assumption | omega | (split <;> omega)) : L_X11_putBytes_3 d 31 x1 x2 I S h1 :=
  
  b_X11_putBytes_3  (fun (c1 : x2 < 0) => ev_retV (e1 c1) (b_X11_putBytes_49 )) (fun (c2 : 0 ≤ x2) => 
    b_X11_putBytes_7  (fun (c3 : 700 ≤ I 31 1) => ev_retV (e2 c2 c3) (b_X11_putBytes_49 )) (fun (c4 : I 31 1 < 700) => 
      b_X11_putBytes_17 (ly_X11_0 hl0) (ly_X10_0 (ly_X11_t hl0)) (v1 c2 c4) (v2 c2 c4) (v3 c2 c4) ((k1 c2 c4))))
abbrev L_J7_fill_53178_5 (d : Nat) (n0 : Nat) (a0 : Nat) (x1 : Int) (x2 : Int) (x3 : Int) (I : Nat → Nat → Int) (S : PS) (h1 : PM) : Prop := Ev d mJ7_fill_53178 (5, [some (vR (some (0, n0, a0))), some (vI x1), some (vI x2), some (vI x3)], [], (I, S)) (.inl none, h1)
theorem w_J7_fill_53178_0 {d : Nat} {I : Nat → Nat → Int} {S : PS} {n0 a0 : Nat} {x1 : Int} {h1 : PM}
    (k1 : L_J7_fill_53178_5 d n0 a0 x1 0 (n0 : Int) I S h1)
    (v1 : n0 ≤ 100000 := by intros; first | assumption | omega | (split <;> omega)) : Ca d mJ7_fill_53178 [vR (some (0, n0, a0)), vI x1] (I, S) (.inl none) h1 :=
  Ca.of rfl rfl (
  b_J7_fill_53178_0 v1 (k1))
theorem w_J7_fill_53178_5 {d : Nat} {I : Nat → Nat → Int} {S : PS} {n0 a0 : Nat} {x1 x2 x3 : Int} {h1 : PM}
    (k1 : (x2 < x3) → L_J7_fill_53178_5 d n0 a0 x1 (x2 + 1) x3 (up2 I a0 (x2.toNat) x1) S h1)
    (e1 : (x3 ≤ x2) → (I, S) = h1 := by intros; rfl)
    (v1 : (x2 < x3) → 0 ≤ x2 ∧ x2 < (n0 : Nat) := by intros; first | assumption | omega | (split <;> omega))
    (v2 : (x2 < x3) → -2147483648 ≤ x2 + 1 ∧ x2 + 1 ≤ 2147483647 := by intros; first | assumption | omega | (split <;> omega)) : L_J7_fill_53178_5 d n0 a0 x1 x2 x3 I S h1 :=
  
  b_J7_fill_53178_5  (fun (c1 : x3 ≤ x2) => ev_retV (e1 c1) (b_J7_fill_53178_20 )) (fun (c2 : x2 < x3) => 
    b_J7_fill_53178_10 (v1 c2) (v2 c2) ((k1 c2)))
end
