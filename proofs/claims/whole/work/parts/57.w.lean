noncomputable section
abbrev L_X12_chainOf_18 (d : Nat) (a0 : Nat) (x1 : Int) (x2 : Int) (x3 : Int) (x4 : Int) (x5 : Int) (x6 : Int) (I : Nat → Nat → Int) (S : PS) (v : Int) (h1 : PM) : Prop := Ev (d + 1) mX12_chainOf (18, [some (vR (some (22, 0, a0))), some (vI x1), some (vI x2), some (vI x3), some (vI x4), some (vI x5), some (vI x6), none, none, none], [], (I, S)) (.inl (some (vI v)), h1)
abbrev L_X12_chainOf_32 (d : Nat) (a0 : Nat) (x1 : Int) (x2 : Int) (x3 : Int) (x4 : Int) (x5 : Int) (x6 : Int) (x7 : Int) (I : Nat → Nat → Int) (S : PS) (v : Int) (h1 : PM) : Prop := Ev (d + 1) mX12_chainOf (32, [some (vR (some (22, 0, a0))), some (vI x1), some (vI x2), some (vI x3), some (vI x4), some (vI x5), some (vI x6), some (vI x7), none, none], [], (I, S)) (.inl (some (vI v)), h1)
abbrev L_X12_chainOf_57 (d : Nat) (a0 : Nat) (x1 : Int) (x2 : Int) (x3 : Int) (x4 : Int) (x5 : Int) (x6 : Int) (x7 : Int) (x8 : Int) (I : Nat → Nat → Int) (S : PS) (v : Int) (h1 : PM) : Prop := Ev (d + 1) mX12_chainOf (57, [some (vR (some (22, 0, a0))), some (vI x1), some (vI x2), some (vI x3), some (vI x4), some (vI x5), some (vI x6), some (vI x7), some (vI x8), none], [], (I, S)) (.inl (some (vI v)), h1)
theorem w_X12_chainOf_0 {d : Nat} {I : Nat → Nat → Int} {S : PS} {x1 x2 x3 : Int} {v : Int} {h1 : PM} (hl0 : LyX12 S)
    (k1 : L_X12_chainOf_18 d 156 x1 x2 x3 (I 178 (x1 + x2).toNat) (p_shl 1 x2) 0 I S v h1)
    (v1 : -2147483648 ≤ x1 + x2 ∧ x1 + x2 ≤ 2147483647 := by intros; first | assumption | omega | (split <;> omega))
    (v2 : 0 ≤ x1 + x2 ∧ x1 + x2 < (36 : Nat) := by intros; first | assumption | omega | (split <;> omega)) : Ca (d + 1) mX12_chainOf [vR (some (22, 0, 156)), vI x1, vI x2, vI x3] (I, S) (.inl (some (vI v))) h1 :=
  Ca.of rfl rfl (
  b_X12_chainOf_0 (ly_X12_39 hl0) v1 v2 (k1))
theorem w_X12_chainOf_18 {d : Nat} {I : Nat → Nat → Int} {S : PS} {x1 x2 x3 x4 x5 x6 : Int} {v : Int} {h1 : PM} (hl0 : LyX12 S)
    (k1 : (x6 ≠ x5) → L_X12_chainOf_32 d 156 x1 x2 x3 x4 x5 x5 0 I S v h1)
    (r1 : (x6 = x5) → x5 = v)
    (e1 : (x6 = x5) → (I, S) = h1 := by intros; rfl) : L_X12_chainOf_18 d 156 x1 x2 x3 x4 x5 x6 I S v h1 :=
  
  b_X12_chainOf_18  (fun (c1 : x6 = x5) => ev_ret2 (r1 c1) (e1 c1) (b_X12_chainOf_136 )) (fun (c2 : x6 ≠ x5) => 
    b_X12_chainOf_25  ((k1 c2)))
theorem w_X12_chainOf_32 {d : Nat} {I : Nat → Nat → Int} {S : PS} {x1 x2 x3 x4 x5 x6 x7 : Int} {v : Int} {h1 : PM} (hl0 : LyX12 S)
    (k1 : (I 156 15 ≤ x7) → L_X12_chainOf_18 d 156 x1 x2 x3 x4 x5 x6 I S v h1)
    (k2 : (x7 < I 156 15) → (p_and (p_shr x6 x7) 1 ≠ 0) → L_X12_chainOf_57 d 156 x1 x2 x3 x4 x5 x6 x7 0 I S v h1)
    (k3 : (x7 < I 156 15) → (p_and (p_shr x6 x7) 1 = 0) → L_X12_chainOf_32 d 156 x1 x2 x3 x4 x5 x6 (x7 + 1) I S v h1)
    (v1 : (x7 < I 156 15) → (p_and (p_shr x6 x7) 1 = 0) → -2147483648 ≤ x7 + 1 ∧ x7 + 1 ≤ 2147483647 := by intros; first | assumption | omega | (split <;> omega)) : L_X12_chainOf_32 d 156 x1 x2 x3 x4 x5 x6 x7 I S v h1 :=
  
  b_X12_chainOf_32  (fun (c1 : I 156 15 ≤ x7) => 
    b_X12_chainOf_133  ((k1 c1))) (fun (c2 : x7 < I 156 15) => 
    b_X12_chainOf_41  (fun (c3 : p_and (p_shr x6 x7) 1 ≠ 0) => 
      b_X12_chainOf_54  ((k2 c2 c3))) (fun (c4 : p_and (p_shr x6 x7) 1 = 0) => 
      b_X12_chainOf_51  (
      b_X12_chainOf_127 (v1 c2 c4) ((k3 c2 c4)))))
theorem w_X12_chainOf_57 {d : Nat} {I : Nat → Nat → Int} {S : PS} {x1 x2 x3 x4 x5 x6 x7 x8 : Int} {v : Int} {h1 : PM} (hl0 : LyX12 S)
    (k1 : (I 161 (10 * x7).toNat ≤ x8) → L_X12_chainOf_32 d 156 x1 x2 x3 x4 x5 x6 (x7 + 1) I S v h1)
    (k2 : (x8 < I 161 (10 * x7).toNat) → L_X12_chainOf_57 d 156 x1 x2 x3 x4 (if I 178 (x1 + (I 161 (((10 * x7) + 1) + x8).toNat)).toNat = x3 then (p_or x5 (p_shl 1 (I 161 (((10 * x7) + 1) + x8).toNat)) : Int) else (if I 178 (x1 + (I 161 (((10 * x7) + 1) + x8).toNat)).toNat ≠ x4 then (x5 : Int) else p_or x5 (p_shl 1 (I 161 (((10 * x7) + 1) + x8).toNat)))) x6 x7 (x8 + 1) I S v h1)
    (v1 : 0 ≤ x7 ∧ x7 < 12 := by intros; first | assumption | omega | (split <;> omega))
    (v2 : (I 161 (10 * x7).toNat ≤ x8) → -2147483648 ≤ x7 + 1 ∧ x7 + 1 ≤ 2147483647 := by intros; first | assumption | omega | (split <;> omega))
    (v3 : (x8 < I 161 (10 * x7).toNat) → -2147483648 ≤ 10 * x7 ∧ 10 * x7 ≤ 2147483647 := by intros; first | assumption | omega | (split <;> omega))
    (v4 : (x8 < I 161 (10 * x7).toNat) → -2147483648 ≤ (10 * x7) + 1 ∧ (10 * x7) + 1 ≤ 2147483647 := by intros; first | assumption | omega | (split <;> omega))
    (v5 : (x8 < I 161 (10 * x7).toNat) → -2147483648 ≤ ((10 * x7) + 1) + x8 ∧ ((10 * x7) + 1) + x8 ≤ 2147483647 := by intros; first | assumption | omega | (split <;> omega))
    (v6 : (x8 < I 161 (10 * x7).toNat) → 0 ≤ ((10 * x7) + 1) + x8 ∧ ((10 * x7) + 1) + x8 < (120 : Nat) := by intros; first | assumption | omega | (split <;> omega))
    (v7 : (x8 < I 161 (10 * x7).toNat) → -2147483648 ≤ x1 + (I 161 (((10 * x7) + 1) + x8).toNat) ∧ x1 + (I 161 (((10 * x7) + 1) + x8).toNat) ≤ 2147483647 := by intros; first | assumption | omega | (split <;> omega))
    (v8 : (x8 < I 161 (10 * x7).toNat) → 0 ≤ x1 + (I 161 (((10 * x7) + 1) + x8).toNat) ∧ x1 + (I 161 (((10 * x7) + 1) + x8).toNat) < (36 : Nat) := by intros; first | assumption | omega | (split <;> omega))
    (v9 : (x8 < I 161 (10 * x7).toNat) → -2147483648 ≤ x8 + 1 ∧ x8 + 1 ≤ 2147483647 := by intros; first | assumption | omega | (split <;> omega)) : L_X12_chainOf_57 d 156 x1 x2 x3 x4 x5 x6 x7 x8 I S v h1 :=
  
  b_X12_chainOf_57  (c_X12_degree hl0 v1) (
  b_X12_chainOf_65  (fun (c1 : I 161 (10 * x7).toNat ≤ x8) => 
    b_X12_chainOf_127 (v2 c1) ((k1 c1))) (fun (c2 : x8 < I 161 (10 * x7).toNat) => 
    have K6 : ∀ u5 : Int, u5 = (if I 178 (x1 + (I 161 (((10 * x7) + 1) + x8).toNat)).toNat = x3 then (p_or x5 (p_shl 1 (I 161 (((10 * x7) + 1) + x8).toNat)) : Int) else (if I 178 (x1 + (I 161 (((10 * x7) + 1) + x8).toNat)).toNat ≠ x4 then (x5 : Int) else p_or x5 (p_shl 1 (I 161 (((10 * x7) + 1) + x8).toNat)))) → Ev (d + 1) mX12_chainOf (121, [some (vR (some (22, 0, 156))), some (vI x1), some (vI x2), some (vI x3), some (vI x4), some (vI u5), some (vI x6), some (vI x7), some (vI x8), some (vI (I 161 (((10 * x7) + 1) + x8).toNat))], [], (I, S)) (.inl (some (vI v)), h1) := fun u5 e_u5 => by subst e_u5; exact (
      b_X12_chainOf_121 (v9 c2) ((k2 c2)))
    
    b_X12_chainOf_68 (ly_X12_21 hl0) (v3 c2) (v4 c2) (v5 c2) (v6 c2) (ly_X12_39 hl0) (v7 c2) (v8 c2) (fun (c3 : I 178 (x1 + (I 161 (((10 * x7) + 1) + x8).toNat)).toNat = x3) => 
      b_X12_chainOf_112  (K6 (p_or x5 (p_shl 1 (I 161 (((10 * x7) + 1) + x8).toNat))) ((if_pos c3).symm))) (fun (c4 : I 178 (x1 + (I 161 (((10 * x7) + 1) + x8).toNat)).toNat ≠ x3) => 
      b_X12_chainOf_98 (ly_X12_39 hl0) (v7 c2) (v8 c2) (fun (c5 : I 178 (x1 + (I 161 (((10 * x7) + 1) + x8).toNat)).toNat ≠ x4) => K6 x5 ((if_pos c5).symm.trans (if_neg c4).symm)) (fun (c6 : I 178 (x1 + (I 161 (((10 * x7) + 1) + x8).toNat)).toNat = x4) => 
        b_X12_chainOf_112  (K6 (p_or x5 (p_shl 1 (I 161 (((10 * x7) + 1) + x8).toNat))) ((if_neg (fun q => q c6)).symm.trans (if_neg c4).symm))))))
abbrev L_X12_laysSheet_9 (d : Nat) (a0 : Nat) (x1 : Int) (I : Nat → Nat → Int) (S : PS) (h1 : PM) : Prop := Ev d mX12_laysSheet (9, [some (vR (some (22, 0, a0))), some (vI x1)], [], (I, S)) (.inl none, h1)
theorem w_X12_laysSheet_0 {d : Nat} {I : Nat → Nat → Int} {S : PS} {h1 : PM} (hl0 : LyX12 S)
    (k1 : (0 < I 156 50) → L_X12_laysSheet_9 d 156 0 I S h1)
    (e1 : (I 156 50 ≤ 0) → ((up2 (up2 (up2 (up2 I 185 ((I 156 50).toNat) (I 156 48)) 156 48 (I 156 48 + 1)) 156 50 (I 156 50 + 1)) 186 2 (if (I 156 50 + 1) ≤ I 186 2 then (I 186 2 : Int) else (I 156 50 + 1))), S) = h1 := by intros; rfl)
    (v1 : (I 156 50 ≤ 0) → 0 ≤ I 156 50 ∧ I 156 50 < (8 : Nat) := by intros; first | assumption | omega | (split <;> omega))
    (v2 : (I 156 50 ≤ 0) → -2147483648 ≤ I 156 48 + 1 ∧ I 156 48 + 1 ≤ 2147483647 := by intros; first | assumption | omega | (split <;> omega))
    (v3 : (I 156 50 ≤ 0) → -2147483648 ≤ I 156 50 + 1 ∧ I 156 50 + 1 ≤ 2147483647 := by intros; first | assumption | omega | (split <;> omega)) : Ca d mX12_laysSheet [vR (some (22, 0, 156))] (I, S) (.inl none) h1 :=
  Ca.of rfl rfl (
  b_X12_laysSheet_0  (fun (c1 : I 156 50 ≤ 0) => 
    have K4 : ∀ us2 : Int, us2 = (if (I 156 50 + 1) ≤ I 186 2 then (I 186 2 : Int) else (I 156 50 + 1)) → Ev d mX12_laysSheet (110, [some (vR (some (22, 0, 156))), none], [vI us2, vI 2, vR (some (0, 4, 186))], ((up2 (up2 (up2 I 185 ((I 156 50).toNat) (I 156 48)) 156 48 (I 156 48 + 1)) 156 50 (I 156 50 + 1)), S)) (.inl none, h1) := fun us2 e_us2 => by subst e_us2; exact (ev_retV (e1 c1) (b_X12_laysSheet_110 (by first | decide | exact (show 0 ≤ (2 : Int) ∧ (2 : Int) < (4 : Nat) from by decide))))
    
    b_X12_laysSheet_46 (ly_X12_53 hl0) (v1 c1) (v2 c1) (v3 c1) (ly_X12_54 hl0) (by decide) (fun (c3 : (I 156 50 + 1) ≤ I 186 2) => 
      b_X12_laysSheet_104 (ly_X12_54 hl0) (by decide) (K4 (I 186 2) ((if_pos c3).symm))) (fun (c4 : I 186 2 < (I 156 50 + 1)) => 
      b_X12_laysSheet_97  (K4 (I 156 50 + 1) ((if_neg (Int.not_le.mpr c4)).symm)))) (fun (c2 : 0 < I 156 50) => 
    b_X12_laysSheet_7  ((k1 c2))))
theorem w_X12_laysSheet_9 {d : Nat} {I : Nat → Nat → Int} {S : PS} {x1 : Int} {h1 : PM} (hl0 : LyX12 S)
    (k1 : (x1 < 12) → L_X12_laysSheet_9 d 156 (x1 + 1) (up2 I 184 (((12 * (I 156 50 - 1)) + x1).toNat) (I 178 (18 + x1).toNat)) S h1)
    (e1 : (12 ≤ x1) → ((up2 (up2 (up2 (up2 I 185 ((I 156 50).toNat) (I 156 48)) 156 48 (I 156 48 + 1)) 156 50 (I 156 50 + 1)) 186 2 (if (I 156 50 + 1) ≤ I 186 2 then (I 186 2 : Int) else (I 156 50 + 1))), S) = h1 := by intros; rfl)
    (v1 : (12 ≤ x1) → 0 ≤ I 156 50 ∧ I 156 50 < (8 : Nat) := by intros; first | assumption | omega | (split <;> omega))
    (v2 : (12 ≤ x1) → -2147483648 ≤ I 156 48 + 1 ∧ I 156 48 + 1 ≤ 2147483647 := by intros; first | assumption | omega | (split <;> omega))
    (v3 : (12 ≤ x1) → -2147483648 ≤ I 156 50 + 1 ∧ I 156 50 + 1 ≤ 2147483647 := by intros; first | assumption | omega | (split <;> omega))
    (v4 : (x1 < 12) → -2147483648 ≤ I 156 50 - 1 ∧ I 156 50 - 1 ≤ 2147483647 := by intros; first | assumption | omega | (split <;> omega))
    (v5 : (x1 < 12) → -2147483648 ≤ 12 * (I 156 50 - 1) ∧ 12 * (I 156 50 - 1) ≤ 2147483647 := by intros; first | assumption | omega | (split <;> omega))
    (v6 : (x1 < 12) → -2147483648 ≤ (12 * (I 156 50 - 1)) + x1 ∧ (12 * (I 156 50 - 1)) + x1 ≤ 2147483647 := by intros; first | assumption | omega | (split <;> omega))
    (v7 : (x1 < 12) → -2147483648 ≤ 18 + x1 ∧ 18 + x1 ≤ 2147483647 := by intros; first | assumption | omega | (split <;> omega))
    (v8 : (x1 < 12) → 0 ≤ 18 + x1 ∧ 18 + x1 < (36 : Nat) := by intros; first | assumption | omega | (split <;> omega))
    (v9 : (x1 < 12) → 0 ≤ (12 * (I 156 50 - 1)) + x1 ∧ (12 * (I 156 50 - 1)) + x1 < (96 : Nat) := by intros; first | assumption | omega | (split <;> omega))
    (v10 : (x1 < 12) → -2147483648 ≤ x1 + 1 ∧ x1 + 1 ≤ 2147483647 := by intros; first | assumption | omega | (split <;> omega)) : L_X12_laysSheet_9 d 156 x1 I S h1 :=
  
  b_X12_laysSheet_9  (fun (c1 : 12 ≤ x1) => 
    have K4 : ∀ us2 : Int, us2 = (if (I 156 50 + 1) ≤ I 186 2 then (I 186 2 : Int) else (I 156 50 + 1)) → Ev d mX12_laysSheet (110, [some (vR (some (22, 0, 156))), none], [vI us2, vI 2, vR (some (0, 4, 186))], ((up2 (up2 (up2 I 185 ((I 156 50).toNat) (I 156 48)) 156 48 (I 156 48 + 1)) 156 50 (I 156 50 + 1)), S)) (.inl none, h1) := fun us2 e_us2 => by subst e_us2; exact (ev_retV (e1 c1) (b_X12_laysSheet_110 (by first | decide | exact (show 0 ≤ (2 : Int) ∧ (2 : Int) < (4 : Nat) from by decide))))
    
    b_X12_laysSheet_46 (ly_X12_53 hl0) (v1 c1) (v2 c1) (v3 c1) (ly_X12_54 hl0) (by decide) (fun (c3 : (I 156 50 + 1) ≤ I 186 2) => 
      b_X12_laysSheet_104 (ly_X12_54 hl0) (by decide) (K4 (I 186 2) ((if_pos c3).symm))) (fun (c4 : I 186 2 < (I 156 50 + 1)) => 
      b_X12_laysSheet_97  (K4 (I 156 50 + 1) ((if_neg (Int.not_le.mpr c4)).symm)))) (fun (c2 : x1 < 12) => 
    b_X12_laysSheet_15 (ly_X12_52 hl0) (v4 c2) (v5 c2) (v6 c2) (ly_X12_39 hl0) (v7 c2) (v8 c2) (v9 c2) (v10 c2) ((k1 c2)))
abbrev L_X12_takesOff_32 (d : Nat) (a0 : Nat) (x1 : Int) (I : Nat → Nat → Int) (S : PS) (h1 : PM) : Prop := Ev d mX12_takesOff (32, [some (vR (some (22, 0, a0))), some (vI x1)], [], (I, S)) (.inl none, h1)
theorem w_X12_takesOff_0 {d : Nat} {I : Nat → Nat → Int} {S : PS} {h1 : PM} (hl0 : LyX12 S)
    (k1 : (0 < (I 156 50 - 1)) → L_X12_takesOff_32 d 156 0 (up2 (up2 I 156 50 (I 156 50 - 1)) 156 49 (I 185 (I 156 50 - 1).toNat)) S h1)
    (e1 : ((I 156 50 - 1) ≤ 0) → ((up2 (up2 I 156 50 (I 156 50 - 1)) 156 49 (I 185 (I 156 50 - 1).toNat)), S) = h1 := by intros; rfl)
    (v1 : -2147483648 ≤ I 156 50 - 1 ∧ I 156 50 - 1 ≤ 2147483647 := by intros; first | assumption | omega | (split <;> omega))
    (v2 : 0 ≤ (I 156 50 - 1) ∧ (I 156 50 - 1) < (8 : Nat) := by intros; first | assumption | omega | (split <;> omega)) : Ca d mX12_takesOff [vR (some (22, 0, 156))] (I, S) (.inl none) h1 :=
  Ca.of rfl rfl (
  b_X12_takesOff_0 v1 (ly_X12_53 hl0) v2 (fun (c1 : (I 156 50 - 1) ≤ 0) => ev_retV (e1 c1) (b_X12_takesOff_69 )) (fun (c2 : 0 < (I 156 50 - 1)) => 
    b_X12_takesOff_30  ((k1 c2))))
theorem w_X12_takesOff_32 {d : Nat} {I : Nat → Nat → Int} {S : PS} {x1 : Int} {h1 : PM} (hl0 : LyX12 S)
    (k1 : (x1 < 12) → L_X12_takesOff_32 d 156 (x1 + 1) (up2 I 178 ((18 + x1).toNat) (I 184 ((12 * (I 156 50 - 1)) + x1).toNat)) S h1)
    (e1 : (12 ≤ x1) → (I, S) = h1 := by intros; rfl)
    (v1 : (x1 < 12) → -2147483648 ≤ 18 + x1 ∧ 18 + x1 ≤ 2147483647 := by intros; first | assumption | omega | (split <;> omega))
    (v2 : (x1 < 12) → -2147483648 ≤ I 156 50 - 1 ∧ I 156 50 - 1 ≤ 2147483647 := by intros; first | assumption | omega | (split <;> omega))
    (v3 : (x1 < 12) → -2147483648 ≤ 12 * (I 156 50 - 1) ∧ 12 * (I 156 50 - 1) ≤ 2147483647 := by intros; first | assumption | omega | (split <;> omega))
    (v4 : (x1 < 12) → -2147483648 ≤ (12 * (I 156 50 - 1)) + x1 ∧ (12 * (I 156 50 - 1)) + x1 ≤ 2147483647 := by intros; first | assumption | omega | (split <;> omega))
    (v5 : (x1 < 12) → 0 ≤ (12 * (I 156 50 - 1)) + x1 ∧ (12 * (I 156 50 - 1)) + x1 < (96 : Nat) := by intros; first | assumption | omega | (split <;> omega))
    (v6 : (x1 < 12) → 0 ≤ 18 + x1 ∧ 18 + x1 < (36 : Nat) := by intros; first | assumption | omega | (split <;> omega))
    (v7 : (x1 < 12) → -2147483648 ≤ x1 + 1 ∧ x1 + 1 ≤ 2147483647 := by intros; first | assumption | omega | (split <;> omega)) : L_X12_takesOff_32 d 156 x1 I S h1 :=
  
  b_X12_takesOff_32  (fun (c1 : 12 ≤ x1) => ev_retV (e1 c1) (b_X12_takesOff_69 )) (fun (c2 : x1 < 12) => 
    b_X12_takesOff_38 (ly_X12_39 hl0) (v1 c2) (ly_X12_52 hl0) (v2 c2) (v3 c2) (v4 c2) (v5 c2) (v6 c2) (v7 c2) ((k1 c2)))
abbrev L_X12_doesHold_30 (d : Nat) (a0 : Nat) (x1 : Int) (x2 : Int) (x3 : Int) (x4 : Int) (I : Nat → Nat → Int) (S : PS) (v : Int) (h1 : PM) : Prop := Ev d mX12_doesHold (30, [some (vR (some (22, 0, a0))), some (vI x1), some (vI x2), some (vI x3), some (vI x4), none, none, none, none], [], (I, S)) (.inl (some (vI v)), h1)
abbrev L_X12_doesHold_45 (d : Nat) (a0 : Nat) (x1 : Int) (x2 : Int) (x3 : Int) (x4 : Int) (x5 : Int) (x6 : Int) (x7 : Int) (I : Nat → Nat → Int) (S : PS) (v : Int) (h1 : PM) : Prop := Ev d mX12_doesHold (45, [some (vR (some (22, 0, a0))), some (vI x1), some (vI x2), some (vI x3), some (vI x4), some (vI x5), some (vI x6), some (vI x7), none], [], (I, S)) (.inl (some (vI v)), h1)
theorem w_X12_doesHold_0 {d : Nat} {I : Nat → Nat → Int} {S : PS} {x1 x2 : Int} {v : Int} {h1 : PM} (hl0 : LyX12 S)
    (k1 : (I 159 (20 * x1).toNat = x2) → L_X12_doesHold_30 d 156 x1 x2 (I 159 ((20 * x1) + 1).toNat) 0 I S v h1)
    (r1 : (I 159 (20 * x1).toNat ≠ x2) → 0 = v)
    (e1 : (I 159 (20 * x1).toNat ≠ x2) → (I, S) = h1 := by intros; rfl)
    (v1 : -2147483648 ≤ 20 * x1 ∧ 20 * x1 ≤ 2147483647 := by intros; first | assumption | omega | (split <;> omega))
    (v2 : 0 ≤ 20 * x1 ∧ 20 * x1 < (80 : Nat) := by intros; first | assumption | omega | (split <;> omega))
    (v3 : (I 159 (20 * x1).toNat = x2) → -2147483648 ≤ (20 * x1) + 1 ∧ (20 * x1) + 1 ≤ 2147483647 := by intros; first | assumption | omega | (split <;> omega))
    (v4 : (I 159 (20 * x1).toNat = x2) → 0 ≤ (20 * x1) + 1 ∧ (20 * x1) + 1 < (80 : Nat) := by intros; first | assumption | omega | (split <;> omega)) : Ca d mX12_doesHold [vR (some (22, 0, 156)), vI x1, vI x2] (I, S) (.inl (some (vI v))) h1 :=
  Ca.of rfl rfl (
  b_X12_doesHold_0 (ly_X12_19 hl0) v1 v2 (fun (c1 : I 159 (20 * x1).toNat = x2) => 
    b_X12_doesHold_15 (ly_X12_19 hl0) v1 (v3 c1) (v4 c1) ((k1 c1))) (fun (c2 : I 159 (20 * x1).toNat ≠ x2) => ev_ret2 (r1 c2) (e1 c2) (b_X12_doesHold_13 )))
theorem w_X12_doesHold_30 {d : Nat} {I : Nat → Nat → Int} {S : PS} {x1 x2 x3 x4 : Int} {v : Int} {h1 : PM} (hl0 : LyX12 S)
    (k1 : (x4 < x2) → L_X12_doesHold_45 d 156 x1 x2 x3 x4 1 1 0 I S v h1)
    (r1 : (x2 ≤ x4) → 0 = v)
    (e1 : (x2 ≤ x4) → (I, S) = h1 := by intros; rfl) : L_X12_doesHold_30 d 156 x1 x2 x3 x4 I S v h1 :=
  
  b_X12_doesHold_30  (fun (c1 : x2 ≤ x4) => ev_ret2 (r1 c1) (e1 c1) (b_X12_doesHold_151 )) (fun (c2 : x4 < x2) => 
    b_X12_doesHold_36  ((k1 c2)))
theorem w_X12_doesHold_45 {d : Nat} {I : Nat → Nat → Int} {S : PS} {x1 x2 x3 x4 x5 x6 x7 : Int} {v : Int} {h1 : PM} (hl0 : LyX12 S)
    (k1 : (x3 ≤ x7) → (x5 = 0) → (x6 = 0) → L_X12_doesHold_30 d 156 x1 x2 x3 (x4 + 1) I S v h1)
    (k2 : (x7 < x3) → L_X12_doesHold_45 d 156 x1 x2 x3 x4 (if (x5 ≠ 0) ∧ (I 177 ((x4 + x7) % x2).toNat = I 159 (((20 * x1) + 2) + x7).toNat) then (1 : Int) else 0) (if (x6 ≠ 0) ∧ (I 177 ((x4 + x2 - x7) % x2).toNat = I 159 (((20 * x1) + 2) + x7).toNat) then (1 : Int) else 0) (x7 + 1) I S v h1)
    (r1 : (x3 ≤ x7) → (x5 ≠ 0) → 1 = v)
    (e1 : (x3 ≤ x7) → (x5 ≠ 0) → (I, S) = h1 := by intros; rfl)
    (r2 : (x3 ≤ x7) → (x5 = 0) → (x6 ≠ 0) → 1 = v)
    (e2 : (x3 ≤ x7) → (x5 = 0) → (x6 ≠ 0) → (I, S) = h1 := by intros; rfl)
    (v1 : (x3 ≤ x7) → (x5 = 0) → (x6 = 0) → -2147483648 ≤ x4 + 1 ∧ x4 + 1 ≤ 2147483647 := by intros; first | assumption | omega | (split <;> omega))
    (v2 : (x7 < x3) → -2147483648 ≤ 20 * x1 ∧ 20 * x1 ≤ 2147483647 := by intros; first | assumption | omega | (split <;> omega))
    (v3 : (x7 < x3) → -2147483648 ≤ (20 * x1) + 2 ∧ (20 * x1) + 2 ≤ 2147483647 := by intros; first | assumption | omega | (split <;> omega))
    (v4 : (x7 < x3) → -2147483648 ≤ ((20 * x1) + 2) + x7 ∧ ((20 * x1) + 2) + x7 ≤ 2147483647 := by intros; first | assumption | omega | (split <;> omega))
    (v5 : (x7 < x3) → 0 ≤ ((20 * x1) + 2) + x7 ∧ ((20 * x1) + 2) + x7 < (80 : Nat) := by intros; first | assumption | omega | (split <;> omega))
    (v6 : (x7 < x3) → (x5 ≠ 0) → -2147483648 ≤ x4 + x7 ∧ x4 + x7 ≤ 2147483647 := by intros; first | assumption | omega | (split <;> omega))
    (v7 : (x7 < x3) → (x5 ≠ 0) → (0 ≤ x4 + x7 ∧ x4 + x7 ≤ 2147483647) ∧ 0 < x2 ∧ x2 ≤ 2147483647 := by intros; first | assumption | omega | (split <;> omega))
    (v8 : (x7 < x3) → (x5 ≠ 0) → 0 ≤ (x4 + x7) % x2 ∧ (x4 + x7) % x2 < (9 : Nat) := by intros; first | assumption | omega | (split <;> omega))
    (v9 : (x7 < x3) → (x6 ≠ 0) → -2147483648 ≤ x4 + x2 ∧ x4 + x2 ≤ 2147483647 := by intros; first | assumption | omega | (split <;> omega))
    (v10 : (x7 < x3) → (x6 ≠ 0) → -2147483648 ≤ x4 + x2 - x7 ∧ x4 + x2 - x7 ≤ 2147483647 := by intros; first | assumption | omega | (split <;> omega))
    (v11 : (x7 < x3) → (x6 ≠ 0) → (0 ≤ x4 + x2 - x7 ∧ x4 + x2 - x7 ≤ 2147483647) ∧ 0 < x2 ∧ x2 ≤ 2147483647 := by intros; first | assumption | omega | (split <;> omega))
    (v12 : (x7 < x3) → (x6 ≠ 0) → 0 ≤ (x4 + x2 - x7) % x2 ∧ (x4 + x2 - x7) % x2 < (9 : Nat) := by intros; first | assumption | omega | (split <;> omega))
    (v13 : (x7 < x3) → -2147483648 ≤ x7 + 1 ∧ x7 + 1 ≤ 2147483647 := by intros; first | assumption | omega | (split <;> omega)) : L_X12_doesHold_45 d 156 x1 x2 x3 x4 x5 x6 x7 I S v h1 :=
  
  b_X12_doesHold_45  (fun (c1 : x3 ≤ x7) => 
    b_X12_doesHold_133  (fun (c3 : x5 ≠ 0) => ev_ret2 (r1 c1 c3) (e1 c1 c3) (b_X12_doesHold_143 )) (fun (c4 : x5 = 0) => 
      b_X12_doesHold_138  (fun (c5 : x6 = 0) => 
        b_X12_doesHold_145 (v1 c1 c4 c5) ((k1 c1 c4 c5))) (fun (c6 : x6 ≠ 0) => ev_ret2 (r2 c1 c4 c6) (e2 c1 c4 c6) (b_X12_doesHold_143 )))) (fun (c2 : x7 < x3) => 
    have K10 : ∀ us0 : Int, us0 = (if (x5 ≠ 0) ∧ (I 177 ((x4 + x7) % x2).toNat = I 159 (((20 * x1) + 2) + x7).toNat) then (1 : Int) else 0) → Ev d mX12_doesHold (94, [some (vR (some (22, 0, 156))), some (vI x1), some (vI x2), some (vI x3), some (vI x4), some (vI x5), some (vI x6), some (vI x7), some (vI (I 159 (((20 * x1) + 2) + x7).toNat))], [vI us0], (I, S)) (.inl (some (vI v)), h1) := fun us0 e_us0 => by subst e_us0; exact (
      have K15 : ∀ us0 : Int, us0 = (if (x6 ≠ 0) ∧ (I 177 ((x4 + x2 - x7) % x2).toNat = I 159 (((20 * x1) + 2) + x7).toNat) then (1 : Int) else 0) → Ev d mX12_doesHold (125, [some (vR (some (22, 0, 156))), some (vI x1), some (vI x2), some (vI x3), some (vI x4), some (vI (if (x5 ≠ 0) ∧ (I 177 ((x4 + x7) % x2).toNat = I 159 (((20 * x1) + 2) + x7).toNat) then (1 : Int) else 0)), some (vI x6), some (vI x7), some (vI (I 159 (((20 * x1) + 2) + x7).toNat))], [vI us0], (I, S)) (.inl (some (vI v)), h1) := fun us0 e_us0 => by subst e_us0; exact (
        b_X12_doesHold_125 (v13 c2) ((k2 c2)))
      
      b_X12_doesHold_94  (fun (c12 : x6 = 0) => 
        b_X12_doesHold_124  (K15 0 (if_neg (fun q => (fun q => q c12) q.1)).symm)) (fun (c13 : x6 ≠ 0) => 
        b_X12_doesHold_101 (ly_X12_38 hl0) (v9 c2 c13) (v10 c2 c13) (v11 c2 c13) (v12 c2 c13) (fun (c14 : I 177 ((x4 + x2 - x7) % x2).toNat ≠ I 159 (((20 * x1) + 2) + x7).toNat) => 
          b_X12_doesHold_124  (K15 0 (if_neg (fun q => c14 q.2)).symm)) (fun (c15 : I 177 ((x4 + x2 - x7) % x2).toNat = I 159 (((20 * x1) + 2) + x7).toNat) => 
          b_X12_doesHold_120  (K15 1 (if_pos ⟨c13, c15⟩).symm))))
    
    b_X12_doesHold_51 (ly_X12_19 hl0) (v2 c2) (v3 c2) (v4 c2) (v5 c2) (fun (c7 : x5 = 0) => 
      b_X12_doesHold_93  (K10 0 (if_neg (fun q => (fun q => q c7) q.1)).symm)) (fun (c8 : x5 ≠ 0) => 
      b_X12_doesHold_72 (ly_X12_38 hl0) (v6 c2 c8) (v7 c2 c8) (v8 c2 c8) (fun (c9 : I 177 ((x4 + x7) % x2).toNat ≠ I 159 (((20 * x1) + 2) + x7).toNat) => 
        b_X12_doesHold_93  (K10 0 (if_neg (fun q => c9 q.2)).symm)) (fun (c10 : I 177 ((x4 + x7) % x2).toNat = I 159 (((20 * x1) + 2) + x7).toNat) => 
        b_X12_doesHold_89  (K10 1 (if_pos ⟨c8, c10⟩).symm))))
abbrev L_X12_isLeast_2 (d : Nat) (a0 : Nat) (x1 : Int) (x2 : Int) (I : Nat → Nat → Int) (S : PS) (v : Int) (h1 : PM) : Prop := Ev d mX12_isLeast (2, [some (vR (some (22, 0, a0))), some (vI x1), some (vI x2), none, none], [], (I, S)) (.inl (some (vI v)), h1)
abbrev L_X12_isLeast_9 (d : Nat) (a0 : Nat) (x1 : Int) (x2 : Int) (x3 : Int) (I : Nat → Nat → Int) (S : PS) (v : Int) (h1 : PM) : Prop := Ev d mX12_isLeast (9, [some (vR (some (22, 0, a0))), some (vI x1), some (vI x2), some (vI x3), none], [], (I, S)) (.inl (some (vI v)), h1)
abbrev L_X12_isLeast_18 (d : Nat) (a0 : Nat) (x1 : Int) (x2 : Int) (x3 : Int) (x4 : Int) (I : Nat → Nat → Int) (S : PS) (v : Int) (h1 : PM) : Prop := Ev d mX12_isLeast (18, [some (vR (some (22, 0, a0))), some (vI x1), some (vI x2), some (vI x3), some (vI x4)], [], (I, S)) (.inl (some (vI v)), h1)
theorem w_X12_isLeast_0 {d : Nat} {I : Nat → Nat → Int} {S : PS} {x1 : Int} {v : Int} {h1 : PM} (hl0 : LyX12 S)
    (k1 : L_X12_isLeast_2 d 156 x1 0 I S v h1) : Ca d mX12_isLeast [vR (some (22, 0, 156)), vI x1] (I, S) (.inl (some (vI v))) h1 :=
  Ca.of rfl rfl (
  b_X12_isLeast_0  (k1))
theorem w_X12_isLeast_2 {d : Nat} {I : Nat → Nat → Int} {S : PS} {x1 x2 : Int} {v : Int} {h1 : PM} (hl0 : LyX12 S)
    (k1 : (x2 < x1) → L_X12_isLeast_9 d 156 x1 x2 1 I S v h1)
    (r1 : (x1 ≤ x2) → 1 = v)
    (e1 : (x1 ≤ x2) → (I, S) = h1 := by intros; rfl) : L_X12_isLeast_2 d 156 x1 x2 I S v h1 :=
  
  b_X12_isLeast_2  (fun (c1 : x1 ≤ x2) => ev_ret2 (r1 c1) (e1 c1) (b_X12_isLeast_100 )) (fun (c2 : x2 < x1) => 
    b_X12_isLeast_7  ((k1 c2)))
theorem w_X12_isLeast_9 {d : Nat} {I : Nat → Nat → Int} {S : PS} {x1 x2 x3 : Int} {v : Int} {h1 : PM} (hl0 : LyX12 S)
    (k1 : (x3 ≤ (-2)) → L_X12_isLeast_2 d 156 x1 (x2 + 1) I S v h1)
    (k2 : ((-2) < x3) → L_X12_isLeast_18 d 156 x1 x2 x3 0 I S v h1)
    (v1 : (x3 ≤ (-2)) → -2147483648 ≤ x2 + 1 ∧ x2 + 1 ≤ 2147483647 := by intros; first | assumption | omega | (split <;> omega)) : L_X12_isLeast_9 d 156 x1 x2 x3 I S v h1 :=
  
  b_X12_isLeast_9  (fun (c1 : x3 ≤ (-2)) => 
    b_X12_isLeast_94 (v1 c1) ((k1 c1))) (fun (c2 : (-2) < x3) => 
    b_X12_isLeast_15  ((k2 c2)))
theorem w_X12_isLeast_18 {d : Nat} {I : Nat → Nat → Int} {S : PS} {x1 x2 x3 x4 : Int} {v : Int} {h1 : PM} (hl0 : LyX12 S)
    (k1 : (x1 ≤ x4) → (x1 ≤ x4) → L_X12_isLeast_9 d 156 x1 x2 (x3 - 2) I S v h1)
    (k2 : (x1 ≤ x4) → (x4 < x1) → (I 177 x4.toNat ≤ I 177 (((x2 + (x3 * x4)) + x1) % x1).toNat) → L_X12_isLeast_9 d 156 x1 x2 (x3 - 2) I S v h1)
    (k3 : (x4 < x1) → (I 177 (((x2 + (x3 * x4)) + x1) % x1).toNat ≠ I 177 x4.toNat) → (x1 ≤ x4) → L_X12_isLeast_9 d 156 x1 x2 (x3 - 2) I S v h1)
    (k4 : (x4 < x1) → (I 177 (((x2 + (x3 * x4)) + x1) % x1).toNat ≠ I 177 x4.toNat) → (x4 < x1) → (I 177 x4.toNat ≤ I 177 (((x2 + (x3 * x4)) + x1) % x1).toNat) → L_X12_isLeast_9 d 156 x1 x2 (x3 - 2) I S v h1)
    (k5 : (x4 < x1) → (I 177 (((x2 + (x3 * x4)) + x1) % x1).toNat = I 177 x4.toNat) → L_X12_isLeast_18 d 156 x1 x2 x3 (x4 + 1) I S v h1)
    (r1 : (x1 ≤ x4) → (x4 < x1) → (I 177 (((x2 + (x3 * x4)) + x1) % x1).toNat < I 177 x4.toNat) → 0 = v)
    (e1 : (x1 ≤ x4) → (x4 < x1) → (I 177 (((x2 + (x3 * x4)) + x1) % x1).toNat < I 177 x4.toNat) → (I, S) = h1 := by intros; rfl)
    (r2 : (x4 < x1) → (I 177 (((x2 + (x3 * x4)) + x1) % x1).toNat ≠ I 177 x4.toNat) → (x4 < x1) → (I 177 (((x2 + (x3 * x4)) + x1) % x1).toNat < I 177 x4.toNat) → 0 = v)
    (e2 : (x4 < x1) → (I 177 (((x2 + (x3 * x4)) + x1) % x1).toNat ≠ I 177 x4.toNat) → (x4 < x1) → (I 177 (((x2 + (x3 * x4)) + x1) % x1).toNat < I 177 x4.toNat) → (I, S) = h1 := by intros; rfl)
    (v1 : (x1 ≤ x4) → (x1 ≤ x4) → -2147483648 ≤ x3 - 2 ∧ x3 - 2 ≤ 2147483647 := by intros; first | assumption | omega | (split <;> omega))
    (v2 : (x1 ≤ x4) → (x4 < x1) → -2147483648 ≤ x3 * x4 ∧ x3 * x4 ≤ 2147483647 := by intros; first | assumption | omega | (split <;> omega))
    (v3 : (x1 ≤ x4) → (x4 < x1) → -2147483648 ≤ x2 + (x3 * x4) ∧ x2 + (x3 * x4) ≤ 2147483647 := by intros; first | assumption | omega | (split <;> omega))
    (v4 : (x1 ≤ x4) → (x4 < x1) → -2147483648 ≤ (x2 + (x3 * x4)) + x1 ∧ (x2 + (x3 * x4)) + x1 ≤ 2147483647 := by intros; first | assumption | omega | (split <;> omega))
    (v5 : (x1 ≤ x4) → (x4 < x1) → (0 ≤ (x2 + (x3 * x4)) + x1 ∧ (x2 + (x3 * x4)) + x1 ≤ 2147483647) ∧ 0 < x1 ∧ x1 ≤ 2147483647 := by intros; first | assumption | omega | (split <;> omega))
    (v6 : (x1 ≤ x4) → (x4 < x1) → 0 ≤ ((x2 + (x3 * x4)) + x1) % x1 ∧ ((x2 + (x3 * x4)) + x1) % x1 < (9 : Nat) := by intros; first | assumption | omega | (split <;> omega))
    (v7 : (x1 ≤ x4) → (x4 < x1) → 0 ≤ x4 ∧ x4 < (9 : Nat) := by intros; first | assumption | omega | (split <;> omega))
    (v8 : (x1 ≤ x4) → (x4 < x1) → (I 177 x4.toNat ≤ I 177 (((x2 + (x3 * x4)) + x1) % x1).toNat) → -2147483648 ≤ x3 - 2 ∧ x3 - 2 ≤ 2147483647 := by intros; first | assumption | omega | (split <;> omega))
    (v9 : (x4 < x1) → -2147483648 ≤ x3 * x4 ∧ x3 * x4 ≤ 2147483647 := by intros; first | assumption | omega | (split <;> omega))
    (v10 : (x4 < x1) → -2147483648 ≤ x2 + (x3 * x4) ∧ x2 + (x3 * x4) ≤ 2147483647 := by intros; first | assumption | omega | (split <;> omega))
    (v11 : (x4 < x1) → -2147483648 ≤ (x2 + (x3 * x4)) + x1 ∧ (x2 + (x3 * x4)) + x1 ≤ 2147483647 := by intros; first | assumption | omega | (split <;> omega))
    (v12 : (x4 < x1) → (0 ≤ (x2 + (x3 * x4)) + x1 ∧ (x2 + (x3 * x4)) + x1 ≤ 2147483647) ∧ 0 < x1 ∧ x1 ≤ 2147483647 := by intros; first | assumption | omega | (split <;> omega))
    (v13 : (x4 < x1) → 0 ≤ ((x2 + (x3 * x4)) + x1) % x1 ∧ ((x2 + (x3 * x4)) + x1) % x1 < (9 : Nat) := by intros; first | assumption | omega | (split <;> omega))
    (v14 : (x4 < x1) → 0 ≤ x4 ∧ x4 < (9 : Nat) := by intros; first | assumption | omega | (split <;> omega))
    (v15 : (x4 < x1) → (I 177 (((x2 + (x3 * x4)) + x1) % x1).toNat ≠ I 177 x4.toNat) → (x1 ≤ x4) → -2147483648 ≤ x3 - 2 ∧ x3 - 2 ≤ 2147483647 := by intros; first | assumption | omega | (split <;> omega))
    (v16 : (x4 < x1) → (I 177 (((x2 + (x3 * x4)) + x1) % x1).toNat ≠ I 177 x4.toNat) → (x4 < x1) → (I 177 x4.toNat ≤ I 177 (((x2 + (x3 * x4)) + x1) % x1).toNat) → -2147483648 ≤ x3 - 2 ∧ x3 - 2 ≤ 2147483647 := by intros; first | assumption | omega | (split <;> omega))
    (v17 : (x4 < x1) → (I 177 (((x2 + (x3 * x4)) + x1) % x1).toNat = I 177 x4.toNat) → -2147483648 ≤ x4 + 1 ∧ x4 + 1 ≤ 2147483647 := by intros; first | assumption | omega | (split <;> omega)) : L_X12_isLeast_18 d 156 x1 x2 x3 x4 I S v h1 :=
  
  b_X12_isLeast_18  (fun (c1 : x1 ≤ x4) => 
    b_X12_isLeast_55  (fun (c3 : x1 ≤ x4) => 
      b_X12_isLeast_88 (v1 c1 c3) ((k1 c1 c3))) (fun (c4 : x4 < x1) => 
      b_X12_isLeast_61 (ly_X12_38 hl0) (v2 c1 c4) (v3 c1 c4) (v4 c1 c4) (v5 c1 c4) (v6 c1 c4) (v7 c1 c4) (fun (c5 : I 177 x4.toNat ≤ I 177 (((x2 + (x3 * x4)) + x1) % x1).toNat) => 
        b_X12_isLeast_88 (v8 c1 c4 c5) ((k2 c1 c4 c5))) (fun (c6 : I 177 (((x2 + (x3 * x4)) + x1) % x1).toNat < I 177 x4.toNat) => ev_ret2 (r1 c1 c4 c6) (e1 c1 c4 c6) (b_X12_isLeast_86 )))) (fun (c2 : x4 < x1) => 
    b_X12_isLeast_24 (ly_X12_38 hl0) (v9 c2) (v10 c2) (v11 c2) (v12 c2) (v13 c2) (v14 c2) (fun (c7 : I 177 (((x2 + (x3 * x4)) + x1) % x1).toNat ≠ I 177 x4.toNat) => 
      b_X12_isLeast_55  (fun (c9 : x1 ≤ x4) => 
        b_X12_isLeast_88 (v15 c2 c7 c9) ((k3 c2 c7 c9))) (fun (c10 : x4 < x1) => 
        b_X12_isLeast_61 (ly_X12_38 hl0) (v9 c2) (v10 c2) (v11 c2) (v12 c2) (v13 c2) (v14 c2) (fun (c11 : I 177 x4.toNat ≤ I 177 (((x2 + (x3 * x4)) + x1) % x1).toNat) => 
          b_X12_isLeast_88 (v16 c2 c7 c10 c11) ((k4 c2 c7 c10 c11))) (fun (c12 : I 177 (((x2 + (x3 * x4)) + x1) % x1).toNat < I 177 x4.toNat) => ev_ret2 (r2 c2 c7 c10 c12) (e2 c2 c7 c10 c12) (b_X12_isLeast_86 )))) (fun (c8 : I 177 (((x2 + (x3 * x4)) + x1) % x1).toNat = I 177 x4.toNat) => 
      b_X12_isLeast_49 (v17 c2 c8) ((k5 c2 c8))))
abbrev L_X0_behindOf_10 (d : Nat) (a0 : Nat) (x1 : Int) (x2 : Int) (x3 : Int) (x4 : Int) (I : Nat → Nat → Int) (S : PS) (v : Int) (h1 : PM) : Prop := Ev (d + 1) mX0_behindOf (10, [some (vR (some (11, 0, a0))), some (vI x1), some (vI x2), some (vI x3), some (vI x4)], [], (I, S)) (.inl (some (vI v)), h1)
theorem w_X0_behindOf_0 {d : Nat} {I : Nat → Nat → Int} {S : PS} {a0 : Nat} {x1 x2 : Int} {v : Int} {h1 : PM} (hl0 : LyX0 S a0)
    (k1 : L_X0_behindOf_10 d a0 x1 x2 (I (a0 + 4) x1.toNat) 0 I S v h1)
    (v1 : 0 ≤ x1 ∧ x1 < (12 : Nat) := by intros; first | assumption | omega | (split <;> omega)) : Ca (d + 1) mX0_behindOf [vR (some (11, 0, a0)), vI x1, vI x2] (I, S) (.inl (some (vI v))) h1 :=
  Ca.of rfl rfl (
  b_X0_behindOf_0 (ly_X0_3 hl0) v1 (k1))
theorem w_X0_behindOf_10 {d : Nat} {I : Nat → Nat → Int} {S : PS} {a0 : Nat} {x1 x2 x3 x4 : Int} {v : Int} {h1 : PM} (hl0 : LyX0 S a0)
    (k1 : (x4 < x3) → (I (a0 + 6) ((x1 * 9) + x4).toNat ≠ x2) → L_X0_behindOf_10 d a0 x1 x2 x3 (x4 + 1) I S v h1)
    (r1 : (x3 ≤ x4) → (-1) = v)
    (e1 : (x3 ≤ x4) → (I, S) = h1 := by intros; rfl)
    (r2 : (x4 < x3) → (I (a0 + 6) ((x1 * 9) + x4).toNat = x2) → I (a0 + 6) ((x1 * 9) + (if x3 ≤ x4 + 1 then (0 : Int) else x4 + 1)).toNat = v)
    (e2 : (x4 < x3) → (I (a0 + 6) ((x1 * 9) + x4).toNat = x2) → (I, S) = h1 := by intros; rfl)
    (v1 : (x4 < x3) → 0 ≤ x1 ∧ x1 < 12 := by intros; first | assumption | omega | (split <;> omega))
    (v2 : (x4 < x3) → 0 ≤ x4 ∧ x4 < 9 := by intros; first | assumption | omega | (split <;> omega))
    (v3 : (x4 < x3) → (I (a0 + 6) ((x1 * 9) + x4).toNat ≠ x2) → -2147483648 ≤ x4 + 1 ∧ x4 + 1 ≤ 2147483647 := by intros; first | assumption | omega | (split <;> omega))
    (v4 : (x4 < x3) → (I (a0 + 6) ((x1 * 9) + x4).toNat = x2) → -2147483648 ≤ x4 + 1 ∧ x4 + 1 ≤ 2147483647 := by intros; first | assumption | omega | (split <;> omega))
    (v5 : (x4 < x3) → (I (a0 + 6) ((x1 * 9) + x4).toNat = x2) → 0 ≤ (if x3 ≤ x4 + 1 then (0 : Int) else x4 + 1) ∧ (if x3 ≤ x4 + 1 then (0 : Int) else x4 + 1) < 9 := by intros; first | assumption | omega | (split <;> omega)) : L_X0_behindOf_10 d a0 x1 x2 x3 x4 I S v h1 :=
  
  b_X0_behindOf_10  (fun (c1 : x3 ≤ x4) => ev_ret2 (r1 c1) (e1 c1) (b_X0_behindOf_55 )) (fun (c2 : x4 < x3) => 
    b_X0_behindOf_16  (c_X0_neighbourAt hl0 (v1 c2) (v2 c2)) (
    b_X0_behindOf_23  (fun (c3 : I (a0 + 6) ((x1 * 9) + x4).toNat ≠ x2) => 
      b_X0_behindOf_49 (v3 c2 c3) ((k1 c2 c3))) (fun (c4 : I (a0 + 6) ((x1 * 9) + x4).toNat = x2) => 
      have K6 : ∀ us2 : Int, us2 = (if x3 ≤ x4 + 1 then (0 : Int) else x4 + 1) → Ev (d + 1) mX0_behindOf (45, [some (vR (some (11, 0, a0))), some (vI x1), some (vI x2), some (vI x3), some (vI x4)], [vI us2, vI x1, vR (some (11, 0, a0))], (I, S)) (.inl (some (vI v)), h1) := fun us2 e_us2 => by subst e_us2; exact (
        b_X0_behindOf_45  (c_X0_neighbourAt hl0 (v1 c2) (v5 c2 c4)) (ev_ret2 (r2 c2 c4) (e2 c2 c4) (b_X0_behindOf_48 )))
      
      b_X0_behindOf_27 (v4 c2 c4) (fun (c5 : x3 ≤ x4 + 1) => 
        b_X0_behindOf_44  (K6 0 ((if_pos c5).symm))) (fun (c6 : x4 + 1 < x3) => 
        b_X0_behindOf_37 (v4 c2 c4) (K6 (x4 + 1) ((if_neg (Int.not_le.mpr c6)).symm))))))
abbrev L_X0_rowOf_2 (d : Nat) (a0 : Nat) (x1 : Int) (n2 : Nat) (a2 : Nat) (x3 : Int) (I : Nat → Nat → Int) (S : PS) (h1 : PM) : Prop := Ev (d + 1) mX0_rowOf (2, [some (vR (some (11, 0, a0))), some (vI x1), some (vR (some (0, n2, a2))), some (vI x3)], [], (I, S)) (.inl none, h1)
theorem w_X0_rowOf_0 {d : Nat} {I : Nat → Nat → Int} {S : PS} {a0 n2 a2 : Nat} {x1 : Int} {h1 : PM} (hl0 : LyX0 S a0)
    (k1 : L_X0_rowOf_2 d a0 x1 n2 a2 0 I S h1) : Ca (d + 1) mX0_rowOf [vR (some (11, 0, a0)), vI x1, vR (some (0, n2, a2))] (I, S) (.inl none) h1 :=
  Ca.of rfl rfl (
  b_X0_rowOf_0  (k1))
theorem w_X0_rowOf_2 {d : Nat} {I : Nat → Nat → Int} {S : PS} {a0 n2 a2 : Nat} {x1 x3 : Int} {h1 : PM} (hl0 : LyX0 S a0)
    (k1 : (x3 < I (a0 + 4) x1.toNat) → (x3 < (n2 : Int)) → L_X0_rowOf_2 d a0 x1 n2 a2 (x3 + 1) (up2 I a2 (x3.toNat) (I (a0 + 4) (I (a0 + 6) ((x1 * 9) + x3).toNat).toNat)) S h1)
    (e1 : (I (a0 + 4) x1.toNat ≤ x3) → (I, S) = h1 := by intros; rfl)
    (e2 : (x3 < I (a0 + 4) x1.toNat) → ((n2 : Int) ≤ x3) → (I, S) = h1 := by intros; rfl)
    (v1 : 0 ≤ x1 ∧ x1 < (12 : Nat) := by intros; first | assumption | omega | (split <;> omega))
    (v2 : (x3 < I (a0 + 4) x1.toNat) → n2 ≤ 100000 := by intros; first | assumption | omega | (split <;> omega))
    (v3 : (x3 < I (a0 + 4) x1.toNat) → (x3 < (n2 : Int)) → 0 ≤ x1 ∧ x1 < 12 := by intros; first | assumption | omega | (split <;> omega))
    (v4 : (x3 < I (a0 + 4) x1.toNat) → (x3 < (n2 : Int)) → 0 ≤ x3 ∧ x3 < 9 := by intros; first | assumption | omega | (split <;> omega))
    (v5 : (x3 < I (a0 + 4) x1.toNat) → (x3 < (n2 : Int)) → 0 ≤ I (a0 + 6) ((x1 * 9) + x3).toNat ∧ I (a0 + 6) ((x1 * 9) + x3).toNat < (12 : Nat) := by intros; first | assumption | omega | (split <;> omega))
    (v6 : (x3 < I (a0 + 4) x1.toNat) → (x3 < (n2 : Int)) → 0 ≤ x3 ∧ x3 < (n2 : Nat) := by intros; first | assumption | omega | (split <;> omega))
    (v7 : (x3 < I (a0 + 4) x1.toNat) → (x3 < (n2 : Int)) → -2147483648 ≤ x3 + 1 ∧ x3 + 1 ≤ 2147483647 := by intros; first | assumption | omega | (split <;> omega)) : L_X0_rowOf_2 d a0 x1 n2 a2 x3 I S h1 :=
  
  b_X0_rowOf_2 (ly_X0_3 hl0) v1 (fun (c1 : I (a0 + 4) x1.toNat ≤ x3) => ev_retV (e1 c1) (b_X0_rowOf_38 )) (fun (c2 : x3 < I (a0 + 4) x1.toNat) => 
    b_X0_rowOf_12 (v2 c2) (fun (c3 : (n2 : Int) ≤ x3) => ev_retV (e2 c2 c3) (b_X0_rowOf_38 )) (fun (c4 : x3 < (n2 : Int)) => 
      b_X0_rowOf_18 (ly_X0_3 hl0) (c_X0_neighbourAt hl0 (v3 c2 c4) (v4 c2 c4)) (
      b_X0_rowOf_30 (v5 c2 c4) (v6 c2 c4) (v7 c2 c4) ((k1 c2 c4)))))
abbrev L_X1_nextRow_4 (d : Nat) (a0 : Nat) (x1 : Int) (x2 : Int) (I : Nat → Nat → Int) (S : PS) (h1 : PM) : Prop := Ev d mX1_nextRow (4, [some (vR (some (12, 0, a0))), some (vI x1), some (vI x2)], [], (I, S)) (.inl none, h1)
theorem w_X1_nextRow_0 {d : Nat} {I : Nat → Nat → Int} {S : PS} {x1 : Int} {h1 : PM} (hl0 : LyX1 S)
    (k1 : L_X1_nextRow_4 d 121 x1 (x1 - 1) I S h1)
    (v1 : -2147483648 ≤ x1 - 1 ∧ x1 - 1 ≤ 2147483647 := by intros; first | assumption | omega | (split <;> omega)) : Ca d mX1_nextRow [vR (some (12, 0, 121)), vI x1] (I, S) (.inl none) h1 :=
  Ca.of rfl rfl (
  b_X1_nextRow_0 v1 (k1))
theorem w_X1_nextRow_4 {d : Nat} {I : Nat → Nat → Int} {S : PS} {x1 x2 : Int} {h1 : PM} (hl0 : LyX1 S)
    (k1 : (0 ≤ x2) → (I 124 x2.toNat = 7) → L_X1_nextRow_4 d 121 x1 (x2 - 1) (up2 I 124 (x2.toNat) 5) S h1)
    (e1 : (x2 < 0) → (x2 < 0) → (I, S) = h1 := by intros; rfl)
    (e2 : (x2 < 0) → (0 ≤ x2) → ((up2 I 124 (x2.toNat) (I 124 x2.toNat + 1)), S) = h1 := by intros; rfl)
    (e3 : (0 ≤ x2) → (I 124 x2.toNat ≠ 7) → (x2 < 0) → (I, S) = h1 := by intros; rfl)
    (e4 : (0 ≤ x2) → (I 124 x2.toNat ≠ 7) → (0 ≤ x2) → ((up2 I 124 (x2.toNat) (I 124 x2.toNat + 1)), S) = h1 := by intros; rfl)
    (v1 : (x2 < 0) → (0 ≤ x2) → 0 ≤ x2 ∧ x2 < (7 : Nat) := by intros; first | assumption | omega | (split <;> omega))
    (v2 : (x2 < 0) → (0 ≤ x2) → -2147483648 ≤ I 124 x2.toNat + 1 ∧ I 124 x2.toNat + 1 ≤ 2147483647 := by intros; first | assumption | omega | (split <;> omega))
    (v3 : (0 ≤ x2) → 0 ≤ x2 ∧ x2 < (7 : Nat) := by intros; first | assumption | omega | (split <;> omega))
    (v4 : (0 ≤ x2) → (I 124 x2.toNat ≠ 7) → (0 ≤ x2) → -2147483648 ≤ I 124 x2.toNat + 1 ∧ I 124 x2.toNat + 1 ≤ 2147483647 := by intros; first | assumption | omega | (split <;> omega))
    (v5 : (0 ≤ x2) → (I 124 x2.toNat = 7) → -2147483648 ≤ x2 - 1 ∧ x2 - 1 ≤ 2147483647 := by intros; first | assumption | omega | (split <;> omega)) : L_X1_nextRow_4 d 121 x1 x2 I S h1 :=
  
  b_X1_nextRow_4  (fun (c1 : x2 < 0) => 
    b_X1_nextRow_32  (fun (c3 : x2 < 0) => ev_retV (e1 c1 c3) (b_X1_nextRow_46 )) (fun (c4 : 0 ≤ x2) => 
      b_X1_nextRow_36 (ly_X1_2 hl0) (v1 c1 c4) (v2 c1 c4) (v1 c1 c4) (ev_retV (e2 c1 c4) (b_X1_nextRow_46 )))) (fun (c2 : 0 ≤ x2) => 
    b_X1_nextRow_8 (ly_X1_2 hl0) (v3 c2) (fun (c5 : I 124 x2.toNat ≠ 7) => 
      b_X1_nextRow_32  (fun (c7 : x2 < 0) => ev_retV (e3 c2 c5 c7) (b_X1_nextRow_46 )) (fun (c8 : 0 ≤ x2) => 
        b_X1_nextRow_36 (ly_X1_2 hl0) (v3 c2) (v4 c2 c5 c8) (v3 c2) (ev_retV (e4 c2 c5 c8) (b_X1_nextRow_46 )))) (fun (c6 : I 124 x2.toNat = 7) => 
      b_X1_nextRow_19 (ly_X1_2 hl0) (v3 c2) (v5 c2 c6) ((k1 c2 c6))))
abbrev L_X1_isLess_6 (d : Nat) (a0 : Nat) (x1 : Int) (x2 : Int) (x3 : Int) (x4 : Int) (x5 : Int) (I : Nat → Nat → Int) (S : PS) (v : Int) (h1 : PM) : Prop := Ev d mX1_isLess (6, [some (vR (some (12, 0, a0))), some (vI x1), some (vI x2), some (vI x3), some (vI x4), some (vI x5)], [], (I, S)) (.inl (some (vI v)), h1)
theorem w_X1_isLess_0 {d : Nat} {I : Nat → Nat → Int} {S : PS} {x1 x2 x3 : Int} {v : Int} {h1 : PM} (hl0 : LyX1 S)
    (k1 : L_X1_isLess_6 d 121 x1 x2 x3 x1 0 I S v h1) : Ca d mX1_isLess [vR (some (12, 0, 121)), vI x1, vI x2, vI x3] (I, S) (.inl (some (vI v))) h1 :=
  Ca.of rfl rfl (
  b_X1_isLess_0  (k1))
theorem w_X1_isLess_6 {d : Nat} {I : Nat → Nat → Int} {S : PS} {x1 x2 x3 x4 x5 : Int} {v : Int} {h1 : PM} (hl0 : LyX1 S)
    (k1 : (x5 < x3) → (I 124 x4.toNat = I 124 x5.toNat) → L_X1_isLess_6 d 121 x1 x2 x3 (if x4 + x2 < x3 then (x4 + x2 : Int) else x4 + x2 - x3) (x5 + 1) I S v h1)
    (r1 : (x3 ≤ x5) → 0 = v)
    (e1 : (x3 ≤ x5) → (I, S) = h1 := by intros; rfl)
    (r2 : (x5 < x3) → (I 124 x4.toNat ≠ I 124 x5.toNat) → (if I 124 x4.toNat < I 124 x5.toNat then (1 : Int) else 0) = v)
    (e2 : (x5 < x3) → (I 124 x4.toNat ≠ I 124 x5.toNat) → (I, S) = h1 := by intros; rfl)
    (v1 : (x5 < x3) → 0 ≤ x4 ∧ x4 < (7 : Nat) := by intros; first | assumption | omega | (split <;> omega))
    (v2 : (x5 < x3) → 0 ≤ x5 ∧ x5 < (7 : Nat) := by intros; first | assumption | omega | (split <;> omega))
    (v3 : (x5 < x3) → (I 124 x4.toNat = I 124 x5.toNat) → -2147483648 ≤ x4 + x2 ∧ x4 + x2 ≤ 2147483647 := by intros; first | assumption | omega | (split <;> omega))
    (v4 : (x5 < x3) → (I 124 x4.toNat = I 124 x5.toNat) → (x3 ≤ x4 + x2) → -2147483648 ≤ x4 + x2 - x3 ∧ x4 + x2 - x3 ≤ 2147483647 := by intros; first | assumption | omega | (split <;> omega))
    (v5 : (x5 < x3) → (I 124 x4.toNat = I 124 x5.toNat) → -2147483648 ≤ x5 + 1 ∧ x5 + 1 ≤ 2147483647 := by intros; first | assumption | omega | (split <;> omega)) : L_X1_isLess_6 d 121 x1 x2 x3 x4 x5 I S v h1 :=
  
  b_X1_isLess_6  (fun (c1 : x3 ≤ x5) => ev_ret2 (r1 c1) (e1 c1) (b_X1_isLess_76 )) (fun (c2 : x5 < x3) => 
    b_X1_isLess_12 (ly_X1_2 hl0) (v1 c2) (v2 c2) (fun (c3 : I 124 x4.toNat = I 124 x5.toNat) => 
      have K6 : ∀ u4 : Int, u4 = (if x4 + x2 < x3 then (x4 + x2 : Int) else x4 + x2 - x3) → Ev d mX1_isLess (70, [some (vR (some (12, 0, 121))), some (vI x1), some (vI x2), some (vI x3), some (vI u4), some (vI x5)], [], (I, S)) (.inl (some (vI v)), h1) := fun u4 e_u4 => by subst e_u4; exact (
        b_X1_isLess_70 (v5 c2 c3) ((k1 c2 c3)))
      
      b_X1_isLess_52 (v3 c2 c3) (fun (c5 : x4 + x2 < x3) => K6 (x4 + x2) ((if_pos c5).symm)) (fun (c6 : x3 ≤ x4 + x2) => 
        b_X1_isLess_64 (v4 c2 c3 c6) (K6 (x4 + x2 - x3) ((if_neg (Int.not_lt.mpr c6)).symm)))) (fun (c4 : I 124 x4.toNat ≠ I 124 x5.toNat) => 
      have K9 : ∀ us0 : Int, us0 = (if I 124 x4.toNat < I 124 x5.toNat then (1 : Int) else 0) → Ev d mX1_isLess (51, [some (vR (some (12, 0, 121))), some (vI x1), some (vI x2), some (vI x3), some (vI x4), some (vI x5)], [vI us0], (I, S)) (.inl (some (vI v)), h1) := fun us0 e_us0 => by subst e_us0; exact (ev_ret2 (r2 c2 c4) (e2 c2 c4) (b_X1_isLess_51 (ite01 _)))
      
      b_X1_isLess_29 (ly_X1_2 hl0) (v1 c2) (v2 c2) (fun (c8 : I 124 x5.toNat ≤ I 124 x4.toNat) => 
        b_X1_isLess_50  (K9 0 (if_neg (Int.not_lt.mpr c8)).symm)) (fun (c9 : I 124 x4.toNat < I 124 x5.toNat) => 
        b_X1_isLess_46  (K9 1 (if_pos c9).symm))))
abbrev L_X1_digitsOf_4 (d : Nat) (a0 : Nat) (x1 : Int) (x2 : Int) (x3 : Int) (I : Nat → Nat → Int) (S : PS) (v : Int) (h1 : PM) : Prop := Ev d mX1_digitsOf (4, [some (vR (some (12, 0, a0))), some (vI x1), some (vI x2), some (vI x3)], [], (I, S)) (.inl (some (vI v)), h1)
theorem w_X1_digitsOf_0 {d : Nat} {I : Nat → Nat → Int} {S : PS} {x1 : Int} {v : Int} {h1 : PM} (hl0 : LyX1 S)
    (k1 : L_X1_digitsOf_4 d 121 x1 0 0 I S v h1) : Ca d mX1_digitsOf [vR (some (12, 0, 121)), vI x1] (I, S) (.inl (some (vI v))) h1 :=
  Ca.of rfl rfl (
  b_X1_digitsOf_0  (k1))
theorem w_X1_digitsOf_4 {d : Nat} {I : Nat → Nat → Int} {S : PS} {x1 x2 x3 : Int} {v : Int} {h1 : PM} (hl0 : LyX1 S)
    (k1 : (x3 < x1) → L_X1_digitsOf_4 d 121 x1 ((x2 * 10) + (I 124 x3.toNat)) (x3 + 1) I S v h1)
    (r1 : (x1 ≤ x3) → x2 = v)
    (e1 : (x1 ≤ x3) → (I, S) = h1 := by intros; rfl)
    (v1 : (x3 < x1) → -2147483648 ≤ x2 * 10 ∧ x2 * 10 ≤ 2147483647 := by intros; first | assumption | omega | (split <;> omega))
    (v2 : (x3 < x1) → 0 ≤ x3 ∧ x3 < (7 : Nat) := by intros; first | assumption | omega | (split <;> omega))
    (v3 : (x3 < x1) → -2147483648 ≤ (x2 * 10) + (I 124 x3.toNat) ∧ (x2 * 10) + (I 124 x3.toNat) ≤ 2147483647 := by intros; first | assumption | omega | (split <;> omega))
    (v4 : (x3 < x1) → -2147483648 ≤ x3 + 1 ∧ x3 + 1 ≤ 2147483647 := by intros; first | assumption | omega | (split <;> omega)) : L_X1_digitsOf_4 d 121 x1 x2 x3 I S v h1 :=
  
  b_X1_digitsOf_4  (fun (c1 : x1 ≤ x3) => ev_ret2 (r1 c1) (e1 c1) (b_X1_digitsOf_27 )) (fun (c2 : x3 < x1) => 
    b_X1_digitsOf_9 (v1 c2) (ly_X1_2 hl0) (v2 c2) (v3 c2) (v4 c2) ((k1 c2)))
abbrev L_X1_takeDigits_7 (d : Nat) (a0 : Nat) (x1 : Int) (x2 : Int) (x3 : Int) (x4 : Int) (I : Nat → Nat → Int) (S : PS) (h1 : PM) : Prop := Ev d mX1_takeDigits (7, [some (vR (some (12, 0, a0))), some (vI x1), some (vI x2), some (vI x3), some (vI x4)], [], (I, S)) (.inl none, h1)
theorem w_X1_takeDigits_0 {d : Nat} {I : Nat → Nat → Int} {S : PS} {x1 x2 : Int} {h1 : PM} (hl0 : LyX1 S)
    (k1 : L_X1_takeDigits_7 d 121 x1 x2 x1 (x2 - 1) I S h1)
    (v1 : -2147483648 ≤ x2 - 1 ∧ x2 - 1 ≤ 2147483647 := by intros; first | assumption | omega | (split <;> omega)) : Ca d mX1_takeDigits [vR (some (12, 0, 121)), vI x1, vI x2] (I, S) (.inl none) h1 :=
  Ca.of rfl rfl (
  b_X1_takeDigits_0 v1 (k1))
theorem w_X1_takeDigits_7 {d : Nat} {I : Nat → Nat → Int} {S : PS} {x1 x2 x3 x4 : Int} {h1 : PM} (hl0 : LyX1 S)
    (k1 : (0 ≤ x4) → L_X1_takeDigits_7 d 121 x1 x2 (x3 / 10) (x4 - 1) (up2 I 124 (x4.toNat) (x3 % 10)) S h1)
    (e1 : (x4 < 0) → (I, S) = h1 := by intros; rfl)
    (v1 : (0 ≤ x4) → (0 ≤ x3 ∧ x3 ≤ 2147483647) ∧ 0 < (10 : Int) ∧ (10 : Int) ≤ 2147483647 := by intros; first | assumption | omega | (split <;> omega))
    (v2 : (0 ≤ x4) → 0 ≤ x4 ∧ x4 < (7 : Nat) := by intros; first | assumption | omega | (split <;> omega))
    (v3 : (0 ≤ x4) → -2147483648 ≤ x4 - 1 ∧ x4 - 1 ≤ 2147483647 := by intros; first | assumption | omega | (split <;> omega)) : L_X1_takeDigits_7 d 121 x1 x2 x3 x4 I S h1 :=
  
  b_X1_takeDigits_7  (fun (c1 : x4 < 0) => ev_retV (e1 c1) (b_X1_takeDigits_34 )) (fun (c2 : 0 ≤ x4) => 
    b_X1_takeDigits_12 (ly_X1_2 hl0) (v1 c2) (v2 c2) (v1 c2) (v3 c2) ((k1 c2)))
abbrev L_X3_linkPlaces_6 (d : Nat) (a0 : Nat) (x1 : Int) (x2 : Int) (x3 : Int) (x4 : Int) (x5 : Int) (I : Nat → Nat → Int) (S : PS) (h1 : PM) : Prop := Ev (d + 1) mX3_linkPlaces (6, [some (vR (some (14, 0, a0))), some (vI x1), some (vI x2), some (vI x3), some (vI x4), some (vI x5)], [], (I, S)) (.inl none, h1)
theorem w_X3_linkPlaces_0 {d : Nat} {I : Nat → Nat → Int} {S : PS} {a0 : Nat} {x1 x2 x3 : Int} {h1 : PM} (hl0 : LyX3 S a0)
    (k1 : L_X3_linkPlaces_6 d a0 x1 x2 x3 x2 0 I S h1) : Ca (d + 1) mX3_linkPlaces [vR (some (14, 0, a0)), vI x1, vI x2, vI x3] (I, S) (.inl none) h1 :=
  Ca.of rfl rfl (
  b_X3_linkPlaces_0  (k1))
theorem w_X3_linkPlaces_6 {d : Nat} {I : Nat → Nat → Int} {S : PS} {a0 : Nat} {x1 x2 x3 x4 x5 : Int} {h1 : PM} (hl0 : LyX3 S a0)
    (k1 : (x5 < x3) → L_X3_linkPlaces_6 d a0 x1 x2 x3 ((if x4 < I a0 3 then (x4 : Int) else 0) + 1) (x5 + 1) (up2 (up2 I (a0 + 2) (x1.toNat) (p_or (I (a0 + 2) x1.toNat) (p_shl 1 (if x4 < I a0 3 then (x4 : Int) else 0)))) (a0 + 2) ((if x4 < I a0 3 then (x4 : Int) else 0).toNat) (p_or ((up2 I (a0 + 2) (x1.toNat) (p_or (I (a0 + 2) x1.toNat) (p_shl 1 (if x4 < I a0 3 then (x4 : Int) else 0)))) (a0 + 2) (if x4 < I a0 3 then (x4 : Int) else 0).toNat) (p_shl 1 x1))) S h1)
    (e1 : (x3 ≤ x5) → (I, S) = h1 := by intros; rfl)
    (v1 : (x5 < x3) → 0 ≤ x1 ∧ x1 < (15 : Nat) := by intros; first | assumption | omega | (split <;> omega))
    (v2 : (x5 < x3) → 0 ≤ (if x4 < I a0 3 then (x4 : Int) else 0) ∧ (if x4 < I a0 3 then (x4 : Int) else 0) < (15 : Nat) := by intros; first | assumption | omega | (split <;> omega))
    (v3 : (x5 < x3) → -2147483648 ≤ (if x4 < I a0 3 then (x4 : Int) else 0) + 1 ∧ (if x4 < I a0 3 then (x4 : Int) else 0) + 1 ≤ 2147483647 := by intros; first | assumption | omega | (split <;> omega))
    (v4 : (x5 < x3) → -2147483648 ≤ x5 + 1 ∧ x5 + 1 ≤ 2147483647 := by intros; first | assumption | omega | (split <;> omega)) : L_X3_linkPlaces_6 d a0 x1 x2 x3 x4 x5 I S h1 :=
  
  b_X3_linkPlaces_6  (fun (c1 : x3 ≤ x5) => ev_retV (e1 c1) (b_X3_linkPlaces_40 )) (fun (c2 : x5 < x3) => 
    have K4 : ∀ u4 : Int, u4 = (if x4 < I a0 3 then (x4 : Int) else 0) → Ev (d + 1) mX3_linkPlaces (24, [some (vR (some (14, 0, a0))), some (vI x1), some (vI x2), some (vI x3), some (vI u4), some (vI x5)], [], (I, S)) (.inl none, h1) := fun u4 e_u4 => by subst e_u4; exact (
      b_X3_linkPlaces_24  (c_X3_link hl0 (v1 c2) (v2 c2)) (
      b_X3_linkPlaces_31 (v3 c2) (v4 c2) ((k1 c2))))
    
    b_X3_linkPlaces_12  (fun (c3 : x4 < I a0 3) => K4 x4 ((if_pos c3).symm)) (fun (c4 : I a0 3 ≤ x4) => 
      b_X3_linkPlaces_21  (K4 0 ((if_neg (Int.not_lt.mpr c4)).symm))))
abbrev L_X3_standsAt_6 (d : Nat) (a0 : Nat) (x1 : Int) (x2 : Int) (x3 : Int) (n4 : Nat) (a4 : Nat) (x5 : Int) (x6 : Int) (I : Nat → Nat → Int) (S : PS) (v : Int) (h1 : PM) : Prop := Ev d mX3_standsAt (6, [some (vR (some (14, 0, a0))), some (vI x1), some (vI x2), some (vI x3), some (vR (some (0, n4, a4))), some (vI x5), some (vI x6)], [], (I, S)) (.inl (some (vI v)), h1)
theorem w_X3_standsAt_0 {d : Nat} {I : Nat → Nat → Int} {S : PS} {a0 n4 a4 : Nat} {x1 x2 x3 : Int} {v : Int} {h1 : PM} (hl0 : LyX3 S a0)
    (k1 : L_X3_standsAt_6 d a0 x1 x2 x3 n4 a4 x1 0 I S v h1) : Ca d mX3_standsAt [vR (some (14, 0, a0)), vI x1, vI x2, vI x3, vR (some (0, n4, a4))] (I, S) (.inl (some (vI v))) h1 :=
  Ca.of rfl rfl (
  b_X3_standsAt_0  (k1))
theorem w_X3_standsAt_6 {d : Nat} {I : Nat → Nat → Int} {S : PS} {a0 n4 a4 : Nat} {x1 x2 x3 x5 x6 : Int} {v : Int} {h1 : PM} (hl0 : LyX3 S a0)
    (k1 : (x6 < I a0 1) → (I a4 x5.toNat = I (a0 + 1) x6.toNat) → L_X3_standsAt_6 d a0 x1 x2 x3 n4 a4 (if x5 + x2 < x3 then (x5 + x2 : Int) else x5 + x2 - x3) (x6 + 1) I S v h1)
    (r1 : (I a0 1 ≤ x6) → 1 = v)
    (e1 : (I a0 1 ≤ x6) → (I, S) = h1 := by intros; rfl)
    (r2 : (x6 < I a0 1) → (I a4 x5.toNat ≠ I (a0 + 1) x6.toNat) → 0 = v)
    (e2 : (x6 < I a0 1) → (I a4 x5.toNat ≠ I (a0 + 1) x6.toNat) → (I, S) = h1 := by intros; rfl)
    (v1 : (x6 < I a0 1) → 0 ≤ x5 ∧ x5 < (n4 : Nat) := by intros; first | assumption | omega | (split <;> omega))
    (v2 : (x6 < I a0 1) → 0 ≤ x6 ∧ x6 < (7 : Nat) := by intros; first | assumption | omega | (split <;> omega))
    (v3 : (x6 < I a0 1) → (I a4 x5.toNat = I (a0 + 1) x6.toNat) → -2147483648 ≤ x5 + x2 ∧ x5 + x2 ≤ 2147483647 := by intros; first | assumption | omega | (split <;> omega))
    (v4 : (x6 < I a0 1) → (I a4 x5.toNat = I (a0 + 1) x6.toNat) → (x3 ≤ x5 + x2) → -2147483648 ≤ x5 + x2 - x3 ∧ x5 + x2 - x3 ≤ 2147483647 := by intros; first | assumption | omega | (split <;> omega))
    (v5 : (x6 < I a0 1) → (I a4 x5.toNat = I (a0 + 1) x6.toNat) → -2147483648 ≤ x6 + 1 ∧ x6 + 1 ≤ 2147483647 := by intros; first | assumption | omega | (split <;> omega)) : L_X3_standsAt_6 d a0 x1 x2 x3 n4 a4 x5 x6 I S v h1 :=
  
  b_X3_standsAt_6  (fun (c1 : I a0 1 ≤ x6) => ev_ret2 (r1 c1) (e1 c1) (b_X3_standsAt_56 )) (fun (c2 : x6 < I a0 1) => 
    b_X3_standsAt_15 (v1 c2) (ly_X3_2 hl0) (v2 c2) (fun (c3 : I a4 x5.toNat = I (a0 + 1) x6.toNat) => 
      have K6 : ∀ u5 : Int, u5 = (if x5 + x2 < x3 then (x5 + x2 : Int) else x5 + x2 - x3) → Ev d mX3_standsAt (50, [some (vR (some (14, 0, a0))), some (vI x1), some (vI x2), some (vI x3), some (vR (some (0, n4, a4))), some (vI u5), some (vI x6)], [], (I, S)) (.inl (some (vI v)), h1) := fun u5 e_u5 => by subst e_u5; exact (
        b_X3_standsAt_50 (v5 c2 c3) ((k1 c2 c3)))
      
      b_X3_standsAt_32 (v3 c2 c3) (fun (c5 : x5 + x2 < x3) => K6 (x5 + x2) ((if_pos c5).symm)) (fun (c6 : x3 ≤ x5 + x2) => 
        b_X3_standsAt_44 (v4 c2 c3 c6) (K6 (x5 + x2 - x3) ((if_neg (Int.not_lt.mpr c6)).symm)))) (fun (c4 : I a4 x5.toNat ≠ I (a0 + 1) x6.toNat) => ev_ret2 (r2 c2 c4) (e2 c2 c4) (b_X3_standsAt_30 )))
abbrev L_X6_codeOfDigits_13 (d : Nat) (a0 : Nat) (x1 : Int) (x2 : Int) (x3 : Int) (x4 : Int) (I : Nat → Nat → Int) (S : PS) (v : Int) (h1 : PM) : Prop := Ev d mX6_codeOfDigits (13, [some (vR (some (16, 0, a0))), some (vI x1), some (vI x2), some (vI x3), some (vI x4), none], [], (I, S)) (.inl (some (vI v)), h1)
theorem w_X6_codeOfDigits_0 {d : Nat} {I : Nat → Nat → Int} {S : PS} {a0 : Nat} {x1 : Int} {v : Int} {h1 : PM} (hl0 : LyX6 S a0)
    (k1 : (0 ≤ x1) → L_X6_codeOfDigits_13 d a0 x1 x1 0 0 I S v h1)
    (r1 : (x1 < 0) → (-1) = v)
    (e1 : (x1 < 0) → (I, S) = h1 := by intros; rfl) : Ca d mX6_codeOfDigits [vR (some (16, 0, a0)), vI x1] (I, S) (.inl (some (vI v))) h1 :=
  Ca.of rfl rfl (
  b_X6_codeOfDigits_0  (fun (c1 : 0 ≤ x1) => 
    b_X6_codeOfDigits_6  ((k1 c1))) (fun (c2 : x1 < 0) => ev_ret2 (r1 c2) (e1 c2) (b_X6_codeOfDigits_4 )))
theorem w_X6_codeOfDigits_13 {d : Nat} {I : Nat → Nat → Int} {S : PS} {a0 : Nat} {x1 x2 x3 x4 : Int} {v : Int} {h1 : PM} (hl0 : LyX6 S a0)
    (k1 : (x4 < I a0 0) → (x2 % 10 < 4) → L_X6_codeOfDigits_13 d a0 x1 (x2 / 10) (p_or x3 (p_shl (x2 % 10) (2 * x4))) (x4 + 1) I S v h1)
    (r1 : (I a0 0 ≤ x4) → (if x2 ≠ 0 then ((-1) : Int) else x3) = v)
    (e1 : (I a0 0 ≤ x4) → (I, S) = h1 := by intros; rfl)
    (r2 : (x4 < I a0 0) → (4 ≤ x2 % 10) → (-1) = v)
    (e2 : (x4 < I a0 0) → (4 ≤ x2 % 10) → (I, S) = h1 := by intros; rfl)
    (v1 : (x4 < I a0 0) → (0 ≤ x2 ∧ x2 ≤ 2147483647) ∧ 0 < (10 : Int) ∧ (10 : Int) ≤ 2147483647 := by intros; first | assumption | omega | (split <;> omega))
    (v2 : (x4 < I a0 0) → (x2 % 10 < 4) → -2147483648 ≤ 2 * x4 ∧ 2 * x4 ≤ 2147483647 := by intros; first | assumption | omega | (split <;> omega))
    (v3 : (x4 < I a0 0) → (x2 % 10 < 4) → -2147483648 ≤ x4 + 1 ∧ x4 + 1 ≤ 2147483647 := by intros; first | assumption | omega | (split <;> omega)) : L_X6_codeOfDigits_13 d a0 x1 x2 x3 x4 I S v h1 :=
  
  b_X6_codeOfDigits_13  (fun (c1 : I a0 0 ≤ x4) => 
    have K4 : ∀ us0 : Int, us0 = (if x2 ≠ 0 then ((-1) : Int) else x3) → Ev d mX6_codeOfDigits (66, [some (vR (some (16, 0, a0))), some (vI x1), some (vI x2), some (vI x3), some (vI x4), none], [vI us0], (I, S)) (.inl (some (vI v)), h1) := fun us0 e_us0 => by subst e_us0; exact (ev_ret2 (r1 c1) (e1 c1) (b_X6_codeOfDigits_66 ))
    
    b_X6_codeOfDigits_57  (fun (c3 : x2 ≠ 0) => 
      b_X6_codeOfDigits_65  (K4 (-1) ((if_pos c3).symm))) (fun (c4 : x2 = 0) => 
      b_X6_codeOfDigits_61  (K4 x3 ((if_neg (fun q => q c4)).symm)))) (fun (c2 : x4 < I a0 0) => 
    b_X6_codeOfDigits_22 (v1 c2) (fun (c6 : x2 % 10 < 4) => 
      b_X6_codeOfDigits_36 (v2 c2 c6) (v1 c2) (v3 c2 c6) ((k1 c2 c6))) (fun (c7 : 4 ≤ x2 % 10) => ev_ret2 (r2 c2 c7) (e2 c2 c7) (b_X6_codeOfDigits_34 )))
abbrev L_X6_find_12 (d : Nat) (a0 : Nat) (x1 : Int) (x2 : Int) (x3 : Int) (x4 : Int) (I : Nat → Nat → Int) (S : PS) (v : Int) (h1 : PM) : Prop := Ev d mX6_find (12, [some (vR (some (16, 0, a0))), some (vI x1), some (vI x2), some (vI x3), some (vI x4), none], [], (I, S)) (.inl (some (vI v)), h1)
theorem w_X6_find_0 {d : Nat} {I : Nat → Nat → Int} {S : PS} {a0 : Nat} {x1 : Int} {v : Int} {h1 : PM} (hl0 : LyX6 S a0)
    (k1 : L_X6_find_12 d a0 x1 0 (I a0 1 - 1) 0 I S v h1)
    (v1 : -2147483648 ≤ I a0 1 - 1 ∧ I a0 1 - 1 ≤ 2147483647 := by intros; first | assumption | omega | (split <;> omega)) : Ca d mX6_find [vR (some (16, 0, a0)), vI x1] (I, S) (.inl (some (vI v))) h1 :=
  Ca.of rfl rfl (
  b_X6_find_0 v1 (k1))
theorem w_X6_find_12 {d : Nat} {I : Nat → Nat → Int} {S : PS} {a0 : Nat} {x1 x2 x3 x4 : Int} {v : Int} {h1 : PM} (hl0 : LyX6 S a0)
    (k1 : (x4 < 91) → (x2 ≤ x3) → (I (a0 + 1) ((x2 + x3) / 2).toNat ≠ x1) → L_X6_find_12 d a0 x1 (if x1 ≤ I (a0 + 1) ((x2 + x3) / 2).toNat then (x2 : Int) else ((x2 + x3) / 2) + 1) (if x1 ≤ I (a0 + 1) ((x2 + x3) / 2).toNat then (((x2 + x3) / 2) - 1 : Int) else x3) (x4 + 1) I S v h1)
    (r1 : (91 ≤ x4) → (-1) = v)
    (e1 : (91 ≤ x4) → (I, S) = h1 := by intros; rfl)
    (r2 : (x4 < 91) → (x3 < x2) → (-1) = v)
    (e2 : (x4 < 91) → (x3 < x2) → (I, S) = h1 := by intros; rfl)
    (r3 : (x4 < 91) → (x2 ≤ x3) → (I (a0 + 1) ((x2 + x3) / 2).toNat = x1) → (x2 + x3) / 2 = v)
    (e3 : (x4 < 91) → (x2 ≤ x3) → (I (a0 + 1) ((x2 + x3) / 2).toNat = x1) → (I, S) = h1 := by intros; rfl)
    (v1 : (x4 < 91) → (x2 ≤ x3) → -2147483648 ≤ x2 + x3 ∧ x2 + x3 ≤ 2147483647 := by intros; first | assumption | omega | (split <;> omega))
    (v2 : (x4 < 91) → (x2 ≤ x3) → (0 ≤ x2 + x3 ∧ x2 + x3 ≤ 2147483647) ∧ 0 < (2 : Int) ∧ (2 : Int) ≤ 2147483647 := by intros; first | assumption | omega | (split <;> omega))
    (v3 : (x4 < 91) → (x2 ≤ x3) → 0 ≤ (x2 + x3) / 2 ∧ (x2 + x3) / 2 < (91 : Nat) := by intros; first | assumption | omega | (split <;> omega))
    (v4 : (x4 < 91) → (x2 ≤ x3) → (I (a0 + 1) ((x2 + x3) / 2).toNat ≠ x1) → (x1 ≤ I (a0 + 1) ((x2 + x3) / 2).toNat) → -2147483648 ≤ ((x2 + x3) / 2) - 1 ∧ ((x2 + x3) / 2) - 1 ≤ 2147483647 := by intros; first | assumption | omega | (split <;> omega))
    (v5 : (x4 < 91) → (x2 ≤ x3) → (I (a0 + 1) ((x2 + x3) / 2).toNat ≠ x1) → (I (a0 + 1) ((x2 + x3) / 2).toNat < x1) → -2147483648 ≤ ((x2 + x3) / 2) + 1 ∧ ((x2 + x3) / 2) + 1 ≤ 2147483647 := by intros; first | assumption | omega | (split <;> omega))
    (v6 : (x4 < 91) → (x2 ≤ x3) → (I (a0 + 1) ((x2 + x3) / 2).toNat ≠ x1) → -2147483648 ≤ x4 + 1 ∧ x4 + 1 ≤ 2147483647 := by intros; first | assumption | omega | (split <;> omega)) : L_X6_find_12 d a0 x1 x2 x3 x4 I S v h1 :=
  
  b_X6_find_12  (fun (c1 : 91 ≤ x4) => ev_ret2 (r1 c1) (e1 c1) (b_X6_find_75 )) (fun (c2 : x4 < 91) => 
    b_X6_find_19  (fun (c3 : x3 < x2) => ev_ret2 (r2 c2 c3) (e2 c2 c3) (b_X6_find_75 )) (fun (c4 : x2 ≤ x3) => 
      b_X6_find_24 (v1 c2 c4) (v2 c2 c4) (ly_X6_2 hl0) (v3 c2 c4) (fun (c5 : I (a0 + 1) ((x2 + x3) / 2).toNat ≠ x1) => 
        have K8 : ∀ u2 : Int, u2 = (if x1 ≤ I (a0 + 1) ((x2 + x3) / 2).toNat then (x2 : Int) else ((x2 + x3) / 2) + 1) → ∀ u3 : Int, u3 = (if x1 ≤ I (a0 + 1) ((x2 + x3) / 2).toNat then (((x2 + x3) / 2) - 1 : Int) else x3) → Ev d mX6_find (69, [some (vR (some (16, 0, a0))), some (vI x1), some (vI u2), some (vI u3), some (vI x4), some (vI ((x2 + x3) / 2))], [], (I, S)) (.inl (some (vI v)), h1) := fun u2 e_u2 u3 e_u3 => by subst e_u2; exact by subst e_u3; exact (
          b_X6_find_69 (v6 c2 c4 c5) ((k1 c2 c4 c5)))
        
        b_X6_find_45 (ly_X6_2 hl0) (v3 c2 c4) (fun (c7 : x1 ≤ I (a0 + 1) ((x2 + x3) / 2).toNat) => 
          b_X6_find_64 (v4 c2 c4 c5 c7) (K8 x2 ((if_pos c7).symm) (((x2 + x3) / 2) - 1) ((if_pos c7).symm))) (fun (c8 : I (a0 + 1) ((x2 + x3) / 2).toNat < x1) => 
          b_X6_find_56 (v5 c2 c4 c5 c8) (K8 (((x2 + x3) / 2) + 1) ((if_neg (Int.not_le.mpr c8)).symm) x3 ((if_neg (Int.not_le.mpr c8)).symm)))) (fun (c6 : I (a0 + 1) ((x2 + x3) / 2).toNat = x1) => ev_ret2 (r3 c2 c4 c6) (e3 c2 c4 c6) (b_X6_find_42 ))))
abbrev L_X6_renamed_13 (d : Nat) (a0 : Nat) (x1 : Int) (x2 : Int) (x3 : Int) (x4 : Int) (x5 : Int) (x6 : Int) (I : Nat → Nat → Int) (S : PS) (v : Int) (h1 : PM) : Prop := Ev d mX6_renamed (13, [some (vR (some (16, 0, a0))), some (vI x1), some (vI x2), some (vI x3), some (vI x4), some (vI x5), some (vI x6), none], [], (I, S)) (.inl (some (vI v)), h1)
theorem w_X6_renamed_0 {d : Nat} {I : Nat → Nat → Int} {S : PS} {a0 : Nat} {x1 : Int} {v : Int} {h1 : PM} (hl0 : LyX6 S a0)
    (k1 : L_X6_renamed_13 d a0 x1 0 0 0 0 0 I S v h1) : Ca d mX6_renamed [vR (some (16, 0, a0)), vI x1] (I, S) (.inl (some (vI v))) h1 :=
  Ca.of rfl rfl (
  b_X6_renamed_0  (k1))
theorem w_X6_renamed_13 {d : Nat} {I : Nat → Nat → Int} {S : PS} {a0 : Nat} {x1 x2 x3 x4 x5 x6 : Int} {v : Int} {h1 : PM} (hl0 : LyX6 S a0)
    (k1 : (x6 < I a0 0) → L_X6_renamed_13 d a0 x1 (if p_and (p_shr x3 (p_and (p_shr x1 (2 * (I a0 0 - 1 - x6))) 3)) 1 ≠ 0 then (x2 : Int) else p_or x2 (p_shl x4 (2 * (p_and (p_shr x1 (2 * (I a0 0 - 1 - x6))) 3)))) (if p_and (p_shr x3 (p_and (p_shr x1 (2 * (I a0 0 - 1 - x6))) 3)) 1 ≠ 0 then (x3 : Int) else p_or x3 (p_shl 1 (p_and (p_shr x1 (2 * (I a0 0 - 1 - x6))) 3))) (if p_and (p_shr x3 (p_and (p_shr x1 (2 * (I a0 0 - 1 - x6))) 3)) 1 ≠ 0 then (x4 : Int) else x4 + 1) (p_or (p_shl x5 2) (p_and (p_shr (if p_and (p_shr x3 (p_and (p_shr x1 (2 * (I a0 0 - 1 - x6))) 3)) 1 ≠ 0 then (x2 : Int) else p_or x2 (p_shl x4 (2 * (p_and (p_shr x1 (2 * (I a0 0 - 1 - x6))) 3)))) (2 * (p_and (p_shr x1 (2 * (I a0 0 - 1 - x6))) 3))) 3)) (x6 + 1) I S v h1)
    (r1 : (I a0 0 ≤ x6) → x5 = v)
    (e1 : (I a0 0 ≤ x6) → (I, S) = h1 := by intros; rfl)
    (v1 : (x6 < I a0 0) → -2147483648 ≤ I a0 0 - 1 ∧ I a0 0 - 1 ≤ 2147483647 := by intros; first | assumption | omega | (split <;> omega))
    (v2 : (x6 < I a0 0) → -2147483648 ≤ I a0 0 - 1 - x6 ∧ I a0 0 - 1 - x6 ≤ 2147483647 := by intros; first | assumption | omega | (split <;> omega))
    (v3 : (x6 < I a0 0) → -2147483648 ≤ 2 * (I a0 0 - 1 - x6) ∧ 2 * (I a0 0 - 1 - x6) ≤ 2147483647 := by intros; first | assumption | omega | (split <;> omega))
    (v4 : (x6 < I a0 0) → (p_and (p_shr x3 (p_and (p_shr x1 (2 * (I a0 0 - 1 - x6))) 3)) 1 = 0) → -2147483648 ≤ 2 * (p_and (p_shr x1 (2 * (I a0 0 - 1 - x6))) 3) ∧ 2 * (p_and (p_shr x1 (2 * (I a0 0 - 1 - x6))) 3) ≤ 2147483647 := by intros; first | assumption | omega | (split <;> omega))
    (v5 : (x6 < I a0 0) → (p_and (p_shr x3 (p_and (p_shr x1 (2 * (I a0 0 - 1 - x6))) 3)) 1 = 0) → -2147483648 ≤ x4 + 1 ∧ x4 + 1 ≤ 2147483647 := by intros; first | assumption | omega | (split <;> omega))
    (v6 : (x6 < I a0 0) → -2147483648 ≤ 2 * (p_and (p_shr x1 (2 * (I a0 0 - 1 - x6))) 3) ∧ 2 * (p_and (p_shr x1 (2 * (I a0 0 - 1 - x6))) 3) ≤ 2147483647 := by intros; first | assumption | omega | (split <;> omega))
    (v7 : (x6 < I a0 0) → -2147483648 ≤ x6 + 1 ∧ x6 + 1 ≤ 2147483647 := by intros; first | assumption | omega | (split <;> omega)) : L_X6_renamed_13 d a0 x1 x2 x3 x4 x5 x6 I S v h1 :=
  
  b_X6_renamed_13  (fun (c1 : I a0 0 ≤ x6) => ev_ret2 (r1 c1) (e1 c1) (b_X6_renamed_89 )) (fun (c2 : x6 < I a0 0) => 
    have K4 : ∀ u2 : Int, u2 = (if p_and (p_shr x3 (p_and (p_shr x1 (2 * (I a0 0 - 1 - x6))) 3)) 1 ≠ 0 then (x2 : Int) else p_or x2 (p_shl x4 (2 * (p_and (p_shr x1 (2 * (I a0 0 - 1 - x6))) 3)))) → ∀ u3 : Int, u3 = (if p_and (p_shr x3 (p_and (p_shr x1 (2 * (I a0 0 - 1 - x6))) 3)) 1 ≠ 0 then (x3 : Int) else p_or x3 (p_shl 1 (p_and (p_shr x1 (2 * (I a0 0 - 1 - x6))) 3))) → ∀ u4 : Int, u4 = (if p_and (p_shr x3 (p_and (p_shr x1 (2 * (I a0 0 - 1 - x6))) 3)) 1 ≠ 0 then (x4 : Int) else x4 + 1) → Ev d mX6_renamed (68, [some (vR (some (16, 0, a0))), some (vI x1), some (vI u2), some (vI u3), some (vI u4), some (vI x5), some (vI x6), some (vI (p_and (p_shr x1 (2 * (I a0 0 - 1 - x6))) 3))], [], (I, S)) (.inl (some (vI v)), h1) := fun u2 e_u2 u3 e_u3 u4 e_u4 => by subst e_u2; exact by subst e_u3; exact by subst e_u4; exact (
      b_X6_renamed_68 (v6 c2) (v7 c2) ((k1 c2)))
    
    b_X6_renamed_22 (v1 c2) (v2 c2) (v3 c2) (fun (c3 : p_and (p_shr x3 (p_and (p_shr x1 (2 * (I a0 0 - 1 - x6))) 3)) 1 ≠ 0) => K4 x2 ((if_pos c3).symm) x3 ((if_pos c3).symm) x4 ((if_pos c3).symm)) (fun (c4 : p_and (p_shr x3 (p_and (p_shr x1 (2 * (I a0 0 - 1 - x6))) 3)) 1 = 0) => 
      b_X6_renamed_48 (v4 c2 c4) (v5 c2 c4) (K4 (p_or x2 (p_shl x4 (2 * (p_and (p_shr x1 (2 * (I a0 0 - 1 - x6))) 3)))) ((if_neg (fun q => q c4)).symm) (p_or x3 (p_shl 1 (p_and (p_shr x1 (2 * (I a0 0 - 1 - x6))) 3))) ((if_neg (fun q => q c4)).symm) (x4 + 1) ((if_neg (fun q => q c4)).symm))))
abbrev L_X6_turned_6 (d : Nat) (a0 : Nat) (x1 : Int) (x2 : Int) (x3 : Int) (x4 : Int) (x5 : Int) (I : Nat → Nat → Int) (S : PS) (v : Int) (h1 : PM) : Prop := Ev d mX6_turned (6, [some (vR (some (16, 0, a0))), some (vI x1), some (vI x2), some (vI x3), some (vI x4), some (vI x5)], [], (I, S)) (.inl (some (vI v)), h1)
theorem w_X6_turned_0 {d : Nat} {I : Nat → Nat → Int} {S : PS} {a0 : Nat} {x1 x2 x3 : Int} {v : Int} {h1 : PM} (hl0 : LyX6 S a0)
    (k1 : L_X6_turned_6 d a0 x1 x2 x3 x1 0 I S v h1) : Ca d mX6_turned [vR (some (16, 0, a0)), vI x1, vI x2, vI x3] (I, S) (.inl (some (vI v))) h1 :=
  Ca.of rfl rfl (
  b_X6_turned_0  (k1))
theorem w_X6_turned_6 {d : Nat} {I : Nat → Nat → Int} {S : PS} {a0 : Nat} {x1 x2 x3 x4 x5 : Int} {v : Int} {h1 : PM} (hl0 : LyX6 S a0)
    (k1 : (x5 < I a0 0) → L_X6_turned_6 d a0 x1 x2 x3 (if p_and (p_shr x3 (I (a0 + 2) x5.toNat)) 1 = 0 then (x4 : Int) else p_xor x4 (p_shl (x2 + 1) (2 * (I a0 0 - 1 - x5)))) (x5 + 1) I S v h1)
    (r1 : (I a0 0 ≤ x5) → x4 = v)
    (e1 : (I a0 0 ≤ x5) → (I, S) = h1 := by intros; rfl)
    (v1 : (x5 < I a0 0) → 0 ≤ x5 ∧ x5 < (7 : Nat) := by intros; first | assumption | omega | (split <;> omega))
    (v2 : (x5 < I a0 0) → (p_and (p_shr x3 (I (a0 + 2) x5.toNat)) 1 ≠ 0) → -2147483648 ≤ x2 + 1 ∧ x2 + 1 ≤ 2147483647 := by intros; first | assumption | omega | (split <;> omega))
    (v3 : (x5 < I a0 0) → (p_and (p_shr x3 (I (a0 + 2) x5.toNat)) 1 ≠ 0) → -2147483648 ≤ I a0 0 - 1 ∧ I a0 0 - 1 ≤ 2147483647 := by intros; first | assumption | omega | (split <;> omega))
    (v4 : (x5 < I a0 0) → (p_and (p_shr x3 (I (a0 + 2) x5.toNat)) 1 ≠ 0) → -2147483648 ≤ I a0 0 - 1 - x5 ∧ I a0 0 - 1 - x5 ≤ 2147483647 := by intros; first | assumption | omega | (split <;> omega))
    (v5 : (x5 < I a0 0) → (p_and (p_shr x3 (I (a0 + 2) x5.toNat)) 1 ≠ 0) → -2147483648 ≤ 2 * (I a0 0 - 1 - x5) ∧ 2 * (I a0 0 - 1 - x5) ≤ 2147483647 := by intros; first | assumption | omega | (split <;> omega))
    (v6 : (x5 < I a0 0) → -2147483648 ≤ x5 + 1 ∧ x5 + 1 ≤ 2147483647 := by intros; first | assumption | omega | (split <;> omega)) : L_X6_turned_6 d a0 x1 x2 x3 x4 x5 I S v h1 :=
  
  b_X6_turned_6  (fun (c1 : I a0 0 ≤ x5) => ev_ret2 (r1 c1) (e1 c1) (b_X6_turned_55 )) (fun (c2 : x5 < I a0 0) => 
    have K4 : ∀ u4 : Int, u4 = (if p_and (p_shr x3 (I (a0 + 2) x5.toNat)) 1 = 0 then (x4 : Int) else p_xor x4 (p_shl (x2 + 1) (2 * (I a0 0 - 1 - x5)))) → Ev d mX6_turned (49, [some (vR (some (16, 0, a0))), some (vI x1), some (vI x2), some (vI x3), some (vI u4), some (vI x5)], [], (I, S)) (.inl (some (vI v)), h1) := fun u4 e_u4 => by subst e_u4; exact (
      b_X6_turned_49 (v6 c2) ((k1 c2)))
    
    b_X6_turned_15 (ly_X6_3 hl0) (v1 c2) (fun (c3 : p_and (p_shr x3 (I (a0 + 2) x5.toNat)) 1 = 0) => K4 x4 ((if_pos c3).symm)) (fun (c4 : p_and (p_shr x3 (I (a0 + 2) x5.toNat)) 1 ≠ 0) => 
      b_X6_turned_29 (v2 c2 c4) (v3 c2 c4) (v4 c2 c4) (v5 c2 c4) (K4 (p_xor x4 (p_shl (x2 + 1) (2 * (I a0 0 - 1 - x5)))) ((if_neg c4).symm))))
abbrev L_X7_begin_2 (d : Nat) (a0 : Nat) (x1 : Int) (x2 : Int) (I : Nat → Nat → Int) (S : PS) (h1 : PM) : Prop := Ev (d + 1) mX7_begin (2, [some (vR (some (17, 0, a0))), some (vI x1), some (vI x2)], [], (I, S)) (.inl none, h1)
theorem w_X7_begin_0 {d : Nat} {I : Nat → Nat → Int} {S : PS} {a0 : Nat} {x1 : Int} {h1 : PM} (hl0 : LyX7 S a0)
    (k1 : L_X7_begin_2 d a0 x1 1 I S h1) : Ca (d + 1) mX7_begin [vR (some (17, 0, a0)), vI x1] (I, S) (.inl none) h1 :=
  Ca.of rfl rfl (
  b_X7_begin_0  (k1))
theorem w_X7_begin_2 {d : Nat} {I : Nat → Nat → Int} {S : PS} {a0 : Nat} {x1 x2 : Int} {h1 : PM} (hl0 : LyX7 S a0)
    (k1 : (x2 < 8) → L_X7_begin_2 d a0 x1 (x2 + 1) (up2 I (a0 + 1) ((((I a0 0) * 8) + x2).toNat) 0) S h1)
    (e1 : (8 ≤ x2) → ((up2 I (a0 + 1) ((((I a0 0) * 8) + 0).toNat) x1), S) = h1 := by intros; rfl)
    (v1 : (8 ≤ x2) → -2147483648 ≤ (I a0 0) * 8 ∧ (I a0 0) * 8 ≤ 2147483647 := by intros; first | assumption | omega | (split <;> omega))
    (v2 : (8 ≤ x2) → -2147483648 ≤ ((I a0 0) * 8) + (0 : Int) ∧ ((I a0 0) * 8) + (0 : Int) ≤ 2147483647 := by intros; first | assumption | omega | (split <;> omega))
    (v3 : (8 ≤ x2) → 0 ≤ ((I a0 0) * 8) + (0 : Int) ∧ ((I a0 0) * 8) + (0 : Int) < (48 : Nat) := by intros; first | assumption | omega | (split <;> omega))
    (v4 : (x2 < 8) → -2147483648 ≤ (I a0 0) * 8 ∧ (I a0 0) * 8 ≤ 2147483647 := by intros; first | assumption | omega | (split <;> omega))
    (v5 : (x2 < 8) → -2147483648 ≤ ((I a0 0) * 8) + x2 ∧ ((I a0 0) * 8) + x2 ≤ 2147483647 := by intros; first | assumption | omega | (split <;> omega))
    (v6 : (x2 < 8) → 0 ≤ ((I a0 0) * 8) + x2 ∧ ((I a0 0) * 8) + x2 < (48 : Nat) := by intros; first | assumption | omega | (split <;> omega))
    (v7 : (x2 < 8) → -2147483648 ≤ x2 + 1 ∧ x2 + 1 ≤ 2147483647 := by intros; first | assumption | omega | (split <;> omega)) : L_X7_begin_2 d a0 x1 x2 I S h1 :=
  
  b_X7_begin_2  (fun (c1 : 8 ≤ x2) => 
    b_X7_begin_20  (c_X7_tell hl0 (v1 c1) (v2 c1) (v3 c1)) (ev_retV (e1 c1) (b_X7_begin_26 ))) (fun (c2 : x2 < 8) => 
    b_X7_begin_8  (c_X7_tell hl0 (v4 c2) (v5 c2) (v6 c2)) (
    b_X7_begin_14 (v7 c2) ((k1 c2))))
abbrev L_X11_takeRow_7 (d : Nat) (a0 : Nat) (x1 : Int) (x2 : Int) (x3 : Int) (x4 : Int) (I : Nat → Nat → Int) (S : PS) (v : Int) (h1 : PM) : Prop := Ev d mX11_takeRow (7, [some (vR (some (21, 0, a0))), some (vI x1), some (vI x2), some (vI x3), some (vI x4), none], [], (I, S)) (.inl (some (vI v)), h1)
theorem w_X11_takeRow_0 {d : Nat} {I : Nat → Nat → Int} {S : PS} {x1 x2 : Int} {T U : Nat} {v : Int} {h1 : PM} (hl0 : LyX11 S T U)
    (k1 : L_X11_takeRow_7 d 31 x1 x2 x2 (x1 - 1) I S v h1)
    (v1 : -2147483648 ≤ x1 - 1 ∧ x1 - 1 ≤ 2147483647 := by intros; first | assumption | omega | (split <;> omega)) : Ca d mX11_takeRow [vR (some (21, 0, 31)), vI x1, vI x2] (I, S) (.inl (some (vI v))) h1 :=
  Ca.of rfl rfl (
  b_X11_takeRow_0 v1 (k1))
theorem w_X11_takeRow_7 {d : Nat} {I : Nat → Nat → Int} {S : PS} {x1 x2 x3 x4 : Int} {T U : Nat} {v : Int} {h1 : PM} (hl0 : LyX11 S T U)
    (k1 : (0 ≤ x4) → (5 ≤ p_rem x3 10) → L_X11_takeRow_7 d 31 x1 x2 (p_div x3 10) (x4 - 1) (up2 I 152 (x4.toNat) (p_rem x3 10)) S v h1)
    (r1 : (x4 < 0) → (if x3 = 0 then (1 : Int) else 0) = v)
    (e1 : (x4 < 0) → (I, S) = h1 := by intros; rfl)
    (r2 : (0 ≤ x4) → (p_rem x3 10 < 5) → 0 = v)
    (e2 : (0 ≤ x4) → (p_rem x3 10 < 5) → (I, S) = h1 := by intros; rfl)
    (v1 : (0 ≤ x4) → (5 ≤ p_rem x3 10) → 0 ≤ x4 ∧ x4 < (9 : Nat) := by intros; first | assumption | omega | (split <;> omega))
    (v2 : (0 ≤ x4) → (5 ≤ p_rem x3 10) → -2147483648 ≤ x4 - 1 ∧ x4 - 1 ≤ 2147483647 := by intros; first | assumption | omega | (split <;> omega)) : L_X11_takeRow_7 d 31 x1 x2 x3 x4 I S v h1 :=
  
  b_X11_takeRow_7  (fun (c1 : x4 < 0) => 
    have K4 : ∀ us0 : Int, us0 = (if x3 = 0 then (1 : Int) else 0) → Ev d mX11_takeRow (55, [some (vR (some (21, 0, 31))), some (vI x1), some (vI x2), some (vI x3), some (vI x4), none], [vI us0], (I, S)) (.inl (some (vI v)), h1) := fun us0 e_us0 => by subst e_us0; exact (ev_ret2 (r1 c1) (e1 c1) (b_X11_takeRow_55 (ite01 _)))
    
    b_X11_takeRow_46  (fun (c3 : x3 ≠ 0) => 
      b_X11_takeRow_54  (K4 0 (if_neg c3).symm)) (fun (c4 : x3 = 0) => 
      b_X11_takeRow_50  (K4 1 (if_pos c4).symm))) (fun (c2 : 0 ≤ x4) => 
    b_X11_takeRow_12  (fun (c6 : 5 ≤ p_rem x3 10) => 
      b_X11_takeRow_26 (ly_X11_11 hl0) (v1 c2 c6) (v2 c2 c6) ((k1 c2 c6))) (fun (c7 : p_rem x3 10 < 5) => ev_ret2 (r2 c2 c7) (e2 c2 c7) (b_X11_takeRow_24 )))
abbrev L_X11_chargeAhead_4 (d : Nat) (a0 : Nat) (x1 : Int) (x2 : Int) (I : Nat → Nat → Int) (S : PS) (v : Int) (h1 : PM) : Prop := Ev (d + 1) mX11_chargeAhead (4, [some (vR (some (21, 0, a0))), some (vI x1), some (vI x2)], [], (I, S)) (.inl (some (vI v)), h1)
theorem w_X11_chargeAhead_0 {d : Nat} {I : Nat → Nat → Int} {S : PS} {T U : Nat} {v : Int} {h1 : PM} (hl0 : LyX11 S T U)
    (k1 : L_X11_chargeAhead_4 d 31 0 0 I S v h1) : Ca (d + 1) mX11_chargeAhead [vR (some (21, 0, 31))] (I, S) (.inl (some (vI v))) h1 :=
  Ca.of rfl rfl (
  b_X11_chargeAhead_0  (k1))
theorem w_X11_chargeAhead_4 {d : Nat} {I : Nat → Nat → Int} {S : PS} {x1 x2 : Int} {T U : Nat} {v : Int} {h1 : PM} (hl0 : LyX11 S T U)
    (k1 : (x2 < I T 6) → L_X11_chargeAhead_4 d 31 (x1 + (10 * (6 - (I (T + 4) x2.toNat)))) (x2 + 1) I S v h1)
    (r1 : (I T 6 ≤ x2) → x1 = v)
    (e1 : (I T 6 ≤ x2) → (I, S) = h1 := by intros; rfl)
    (v1 : (x2 < I T 6) → 0 ≤ x2 ∧ x2 < (12 : Nat) := by intros; first | assumption | omega | (split <;> omega))
    (v2 : (x2 < I T 6) → -2147483648 ≤ 6 - (I (T + 4) x2.toNat) ∧ 6 - (I (T + 4) x2.toNat) ≤ 2147483647 := by intros; first | assumption | omega | (split <;> omega))
    (v3 : (x2 < I T 6) → -2147483648 ≤ 10 * (6 - (I (T + 4) x2.toNat)) ∧ 10 * (6 - (I (T + 4) x2.toNat)) ≤ 2147483647 := by intros; first | assumption | omega | (split <;> omega))
    (v4 : (x2 < I T 6) → -2147483648 ≤ x1 + (10 * (6 - (I (T + 4) x2.toNat))) ∧ x1 + (10 * (6 - (I (T + 4) x2.toNat))) ≤ 2147483647 := by intros; first | assumption | omega | (split <;> omega))
    (v5 : (x2 < I T 6) → -2147483648 ≤ x2 + 1 ∧ x2 + 1 ≤ 2147483647 := by intros; first | assumption | omega | (split <;> omega)) : L_X11_chargeAhead_4 d 31 x1 x2 I S v h1 :=
  
  b_X11_chargeAhead_4 (ly_X11_2 hl0) (fun (c1 : I T 6 ≤ x2) => ev_ret2 (r1 c1) (e1 c1) (b_X11_chargeAhead_36 )) (fun (c2 : x2 < I T 6) => 
    b_X11_chargeAhead_15 (ly_X11_2 hl0) (ly_X0_3 (ly_X11_c hl0)) (v1 c2) (c_X7_ahead (v2 c2) (v3 c2)) (
    b_X11_chargeAhead_28 (v4 c2) (v5 c2) ((k1 c2))))
abbrev L_X11_mendsLacks_2 (d : Nat) (a0 : Nat) (x1 : Int) (x2 : Int) (I : Nat → Nat → Int) (S : PS) (v : Int) (h1 : PM) : Prop := Ev d mX11_mendsLacks (2, [some (vR (some (21, 0, a0))), some (vI x1), some (vI x2)], [], (I, S)) (.inl (some (vI v)), h1)
theorem w_X11_mendsLacks_0 {d : Nat} {I : Nat → Nat → Int} {S : PS} {x1 : Int} {T U : Nat} {v : Int} {h1 : PM} (hl0 : LyX11 S T U)
    (k1 : L_X11_mendsLacks_2 d 31 x1 0 I S v h1) : Ca d mX11_mendsLacks [vR (some (21, 0, 31)), vI x1] (I, S) (.inl (some (vI v))) h1 :=
  Ca.of rfl rfl (
  b_X11_mendsLacks_0  (k1))
theorem w_X11_mendsLacks_2 {d : Nat} {I : Nat → Nat → Int} {S : PS} {x1 x2 : Int} {T U : Nat} {v : Int} {h1 : PM} (hl0 : LyX11 S T U)
    (k1 : (x2 < I 126 6) → (x1 * (I 154 x2.toNat) = I 153 x2.toNat) → L_X11_mendsLacks_2 d 31 x1 (x2 + 1) I S v h1)
    (r1 : (I 126 6 ≤ x2) → 1 = v)
    (e1 : (I 126 6 ≤ x2) → (I, S) = h1 := by intros; rfl)
    (r2 : (x2 < I 126 6) → (x1 * (I 154 x2.toNat) ≠ I 153 x2.toNat) → 0 = v)
    (e2 : (x2 < I 126 6) → (x1 * (I 154 x2.toNat) ≠ I 153 x2.toNat) → (I, S) = h1 := by intros; rfl)
    (v1 : (x2 < I 126 6) → 0 ≤ x2 ∧ x2 < (8 : Nat) := by intros; first | assumption | omega | (split <;> omega))
    (v2 : (x2 < I 126 6) → -2147483648 ≤ x1 * (I 154 x2.toNat) ∧ x1 * (I 154 x2.toNat) ≤ 2147483647 := by intros; first | assumption | omega | (split <;> omega))
    (v3 : (x2 < I 126 6) → (x1 * (I 154 x2.toNat) = I 153 x2.toNat) → -2147483648 ≤ x2 + 1 ∧ x2 + 1 ≤ 2147483647 := by intros; first | assumption | omega | (split <;> omega)) : L_X11_mendsLacks_2 d 31 x1 x2 I S v h1 :=
  
  b_X11_mendsLacks_2 (ly_X11_6 hl0) (fun (c1 : I 126 6 ≤ x2) => ev_ret2 (r1 c1) (e1 c1) (b_X11_mendsLacks_38 )) (fun (c2 : x2 < I 126 6) => 
    b_X11_mendsLacks_13 (ly_X11_13 hl0) (v1 c2) (v2 c2) (ly_X11_12 hl0) (v1 c2) (fun (c3 : x1 * (I 154 x2.toNat) = I 153 x2.toNat) => 
      b_X11_mendsLacks_32 (v3 c2 c3) ((k1 c2 c3))) (fun (c4 : x1 * (I 154 x2.toNat) ≠ I 153 x2.toNat) => ev_ret2 (r2 c2 c4) (e2 c2 c4) (b_X11_mendsLacks_30 )))
abbrev L_X4_takeAllOff_7 (d : Nat) (a0 : Nat) (x1 : Int) (I : Nat → Nat → Int) (S : PS) (h1 : PM) : Prop := Ev (d + 1) mX4_takeAllOff (7, [some (vR (some (15, 0, a0))), some (vI x1)], [], (I, S)) (.inl none, h1)
theorem w_X4_takeAllOff_0 {d : Nat} {I : Nat → Nat → Int} {S : PS} {h1 : PM} (hl0 : LyX4 S)
    (k1 : L_X4_takeAllOff_7 d 147 0 (up2 I 147 11 0) S h1) : Ca (d + 1) mX4_takeAllOff [vR (some (15, 0, 147))] (I, S) (.inl none) h1 :=
  Ca.of rfl rfl (
  b_X4_takeAllOff_0  (k1))
theorem w_X4_takeAllOff_7 {d : Nat} {I : Nat → Nat → Int} {S : PS} {x1 : Int} {h1 : PM} (hl0 : LyX4 S)
    (k1 : (x1 < 8) → (0 < I 147 3) → L_X4_takeAllOff_7 d 147 (x1 + 1) (up2 (if 1 ≤ I 147 3 then (up2 (cpyI (up2 I 147 3 (I 147 3 - 1)) 150 (((I 147 3 - 1) * 4).toNat) 149 0 4) 147 5 (I 151 (I 147 3 - 1).toNat)) else I) 147 11 ((((if 1 ≤ I 147 3 then (up2 (cpyI (up2 I 147 3 (I 147 3 - 1)) 150 (((I 147 3 - 1) * 4).toNat) 149 0 4) 147 5 (I 151 (I 147 3 - 1).toNat)) else I) 147 11) * 10) + (((if 1 ≤ I 147 3 then (up2 (cpyI (up2 I 147 3 (I 147 3 - 1)) 150 (((I 147 3 - 1) * 4).toNat) 149 0 4) 147 5 (I 151 (I 147 3 - 1).toNat)) else I) 147 5) % 10))) S h1)
    (e1 : (8 ≤ x1) → (I, S) = h1 := by intros; rfl)
    (e2 : (x1 < 8) → (I 147 3 ≤ 0) → (I, S) = h1 := by intros; rfl)
    (v1 : (x1 < 8) → (0 < I 147 3) → (1 ≤ I 147 3) → -2147483648 ≤ I 147 3 - 1 ∧ I 147 3 - 1 ≤ 2147483647 := by intros; first | assumption | omega | (split <;> omega))
    (v2 : (x1 < 8) → (0 < I 147 3) → (1 ≤ I 147 3) → -2147483648 ≤ (I 147 3 - 1) * 4 ∧ (I 147 3 - 1) * 4 ≤ 2147483647 := by intros; first | assumption | omega | (split <;> omega))
    (v3 : (x1 < 8) → (0 < I 147 3) → (1 ≤ I 147 3) → 0 ≤ (I 147 3 - 1) * 4 := by intros; first | assumption | omega | (split <;> omega))
    (v4 : (x1 < 8) → (0 < I 147 3) → (1 ≤ I 147 3) → (I 147 3 - 1) * 4 + 4 ≤ (32 : Nat) := by intros; first | assumption | omega | (split <;> omega))
    (v5 : (x1 < 8) → (0 < I 147 3) → (1 ≤ I 147 3) → 0 ≤ (I 147 3 - 1) ∧ (I 147 3 - 1) < (8 : Nat) := by intros; first | assumption | omega | (split <;> omega))
    (v6 : (x1 < 8) → (0 < I 147 3) → -2147483648 ≤ ((if 1 ≤ I 147 3 then (up2 (cpyI (up2 I 147 3 (I 147 3 - 1)) 150 (((I 147 3 - 1) * 4).toNat) 149 0 4) 147 5 (I 151 (I 147 3 - 1).toNat)) else I) 147 11) * 10 ∧ ((if 1 ≤ I 147 3 then (up2 (cpyI (up2 I 147 3 (I 147 3 - 1)) 150 (((I 147 3 - 1) * 4).toNat) 149 0 4) 147 5 (I 151 (I 147 3 - 1).toNat)) else I) 147 11) * 10 ≤ 2147483647 := by intros; first | assumption | omega | (split <;> omega))
    (v7 : (x1 < 8) → (0 < I 147 3) → (0 ≤ (if 1 ≤ I 147 3 then (up2 (cpyI (up2 I 147 3 (I 147 3 - 1)) 150 (((I 147 3 - 1) * 4).toNat) 149 0 4) 147 5 (I 151 (I 147 3 - 1).toNat)) else I) 147 5 ∧ (if 1 ≤ I 147 3 then (up2 (cpyI (up2 I 147 3 (I 147 3 - 1)) 150 (((I 147 3 - 1) * 4).toNat) 149 0 4) 147 5 (I 151 (I 147 3 - 1).toNat)) else I) 147 5 ≤ 2147483647) ∧ 0 < (10 : Int) ∧ (10 : Int) ≤ 2147483647 := by intros; first | assumption | omega | (split <;> omega))
    (v8 : (x1 < 8) → (0 < I 147 3) → -2147483648 ≤ (((if 1 ≤ I 147 3 then (up2 (cpyI (up2 I 147 3 (I 147 3 - 1)) 150 (((I 147 3 - 1) * 4).toNat) 149 0 4) 147 5 (I 151 (I 147 3 - 1).toNat)) else I) 147 11) * 10) + (((if 1 ≤ I 147 3 then (up2 (cpyI (up2 I 147 3 (I 147 3 - 1)) 150 (((I 147 3 - 1) * 4).toNat) 149 0 4) 147 5 (I 151 (I 147 3 - 1).toNat)) else I) 147 5) % 10) ∧ (((if 1 ≤ I 147 3 then (up2 (cpyI (up2 I 147 3 (I 147 3 - 1)) 150 (((I 147 3 - 1) * 4).toNat) 149 0 4) 147 5 (I 151 (I 147 3 - 1).toNat)) else I) 147 11) * 10) + (((if 1 ≤ I 147 3 then (up2 (cpyI (up2 I 147 3 (I 147 3 - 1)) 150 (((I 147 3 - 1) * 4).toNat) 149 0 4) 147 5 (I 151 (I 147 3 - 1).toNat)) else I) 147 5) % 10) ≤ 2147483647 := by intros; first | assumption | omega | (split <;> omega))
    (v9 : (x1 < 8) → (0 < I 147 3) → -2147483648 ≤ x1 + 1 ∧ x1 + 1 ≤ 2147483647 := by intros; first | assumption | omega | (split <;> omega)) : L_X4_takeAllOff_7 d 147 x1 I S h1 :=
  
  b_X4_takeAllOff_7  (fun (c1 : 8 ≤ x1) => ev_retV (e1 c1) (b_X4_takeAllOff_49 )) (fun (c2 : x1 < 8) => 
    b_X4_takeAllOff_13  (fun (c3 : I 147 3 ≤ 0) => ev_retV (e2 c2 c3) (b_X4_takeAllOff_49 )) (fun (c4 : 0 < I 147 3) => 
      b_X4_takeAllOff_20  (c_X4_takeOff hl0 (v1 c2 c4) (v2 c2 c4) (v3 c2 c4) (v4 c2 c4) (v5 c2 c4)) (
      b_X4_takeAllOff_24 (v6 c2 c4) (v7 c2 c4) (v8 c2 c4) (v9 c2 c4) ((k1 c2 c4)))))
end
