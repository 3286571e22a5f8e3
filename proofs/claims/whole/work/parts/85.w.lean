noncomputable section
abbrev L_X12_swaps_22 (d : Nat) (a0 : Nat) (x1 : Int) (x2 : Int) (x3 : Int) (x4 : Int) (x5 : Int) (x6 : Int) (I : Nat → Nat → Int) (S : PS) (v : Int) (h1 : PM) : Prop := Ev (d + 2) mX12_swaps (22, [some (vR (some (22, 0, a0))), some (vI x1), some (vI x2), some (vI x3), some (vI x4), some (vI x5), some (vI x6)], [], (I, S)) (.inl (some (vI v)), h1)
theorem w_X12_swaps_0 {d : Nat} {I : Nat → Nat → Int} {S : PS} {x1 x2 x3 : Int} {v : Int} {h1 : PM} (hl0 : LyX12 S)
    (k1 : L_X12_swaps_22 d 156 x1 x2 x3 (I 178 (x1 + x2).toNat) (chM I x1 x2 x3) 0 I S v h1)
    (v1 : -2147483648 ≤ x1 + x2 ∧ x1 + x2 ≤ 2147483647 := by intros; first | assumption | omega | (split <;> omega))
    (v2 : 0 ≤ x1 + x2 ∧ x1 + x2 < (36 : Nat) := by intros; first | assumption | omega | (split <;> omega))
    (v3 : x1 = 0 ∨ x1 = 18 := by intros; first | assumption | omega | (split <;> omega))
    (v4 : mSp I := by intros; first | assumption | omega | (split <;> omega))
    (v5 : mNb I := by intros; first | assumption | omega | (split <;> omega))
    (v6 : 0 ≤ x2 ∧ x2 < (I 156 15) := by intros; first | assumption | omega | (split <;> omega)) : Ca (d + 2) mX12_swaps [vR (some (22, 0, 156)), vI x1, vI x2, vI x3] (I, S) (.inl (some (vI v))) h1 :=
  Ca.of rfl rfl (
  b_X12_swaps_0 (ly_X12_39 hl0) v1 v2 (c_X12_chainOf hl0 v3 v4 v5 v6) (
  b_X12_swaps_17  (k1)))
theorem w_X12_swaps_22 {d : Nat} {I : Nat → Nat → Int} {S : PS} {x1 x2 x3 x4 x5 x6 : Int} {v : Int} {h1 : PM} (hl0 : LyX12 S)
    (k1 : (x6 < I 156 15) → (p_and (p_shr x5 x6) 1 ≠ 1) → L_X12_swaps_22 d 156 x1 x2 x3 x4 x5 (x6 + 1) I S v h1)
    (k2 : (x6 < I 156 15) → (p_and (p_shr x5 x6) 1 = 1) → L_X12_swaps_22 d 156 x1 x2 x3 x4 x5 (x6 + 1) (up2 I 178 ((x1 + x6).toNat) (if I 178 (x1 + x6).toNat ≠ x3 then (x3 : Int) else x4)) S v h1)
    (r1 : (I 156 15 ≤ x6) → (bcn x5 15) = v)
    (e1 : (I 156 15 ≤ x6) → (I, S) = h1 := by intros; rfl)
    (v1 : (x6 < I 156 15) → (p_and (p_shr x5 x6) 1 ≠ 1) → -2147483648 ≤ x6 + 1 ∧ x6 + 1 ≤ 2147483647 := by intros; first | assumption | omega | (split <;> omega))
    (v2 : (x6 < I 156 15) → (p_and (p_shr x5 x6) 1 = 1) → -2147483648 ≤ x1 + x6 ∧ x1 + x6 ≤ 2147483647 := by intros; first | assumption | omega | (split <;> omega))
    (v3 : (x6 < I 156 15) → (p_and (p_shr x5 x6) 1 = 1) → 0 ≤ x1 + x6 ∧ x1 + x6 < (36 : Nat) := by intros; first | assumption | omega | (split <;> omega))
    (v4 : (x6 < I 156 15) → (p_and (p_shr x5 x6) 1 = 1) → -2147483648 ≤ x6 + 1 ∧ x6 + 1 ≤ 2147483647 := by intros; first | assumption | omega | (split <;> omega)) : L_X12_swaps_22 d 156 x1 x2 x3 x4 x5 x6 I S v h1 :=
  
  b_X12_swaps_22  (fun (c1 : I 156 15 ≤ x6) => 
    b_X12_swaps_76  c_X12_bits (ev_ret2 (r1 c1) (e1 c1) (b_X12_swaps_81 ))) (fun (c2 : x6 < I 156 15) => 
    b_X12_swaps_31  (fun (c3 : p_and (p_shr x5 x6) 1 ≠ 1) => 
      b_X12_swaps_70 (v1 c2 c3) ((k1 c2 c3))) (fun (c4 : p_and (p_shr x5 x6) 1 = 1) => 
      have K6 : ∀ us2 : Int, us2 = (if I 178 (x1 + x6).toNat ≠ x3 then (x3 : Int) else x4) → Ev (d + 2) mX12_swaps (69, [some (vR (some (22, 0, 156))), some (vI x1), some (vI x2), some (vI x3), some (vI x4), some (vI x5), some (vI x6)], [vI us2, vI (x1 + x6), vR (some (0, 36, 178))], (I, S)) (.inl (some (vI v)), h1) := fun us2 e_us2 => by subst e_us2; exact (
        b_X12_swaps_69 (v3 c2 c4) (
        b_X12_swaps_70 (v4 c2 c4) ((k2 c2 c4))))
      
      b_X12_swaps_42 (ly_X12_39 hl0) (v2 c2 c4) (v2 c2 c4) (v3 c2 c4) (fun (c5 : I 178 (x1 + x6).toNat ≠ x3) => 
        b_X12_swaps_68  (K6 x3 ((if_pos c5).symm))) (fun (c6 : I 178 (x1 + x6).toNat = x3) => 
        b_X12_swaps_63  (K6 x4 ((if_neg (fun q => q c6)).symm)))))
end
