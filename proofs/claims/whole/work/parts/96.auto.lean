noncomputable section
theorem c_X12_swap {d : Nat} {I : Nat → Nat → Int} {S : PS} {x1 x2 : Int} (hl0 : LyX12 S)
    (v1 : ((((0 ≤ x1) ∧ (x1 < I 156 15)))) → -2147483648 ≤ (0 : Int) + x1 ∧ (0 : Int) + x1 ≤ 2147483647)
    (v2 : ((((0 ≤ x1) ∧ (x1 < I 156 15)))) → 0 ≤ (0 : Int) + x1 ∧ (0 : Int) + x1 < (36 : Nat))
    (v3 : ((((0 ≤ x1) ∧ (x1 < I 156 15)))) → ((I 178 (0 + x1).toNat ≠ (-1)) ∧ (((0 ≤ x2) ∧ (x2 ≤ 3)) ∧ (I 178 (0 + x1).toNat ≠ x2))) → 0 ≤ (I 156 41) ∧ (I 156 41) ≤ 30)
    (v4 : ((((0 ≤ x1) ∧ (x1 < I 156 15)))) → ((I 178 (0 + x1).toNat ≠ (-1)) ∧ (((0 ≤ x2) ∧ (x2 ≤ 3)) ∧ (I 178 (0 + x1).toNat ≠ x2))) → mSp (kpI (up2 I 156 0 0)))
    (v5 : ((((0 ≤ x1) ∧ (x1 < I 156 15)))) → ((I 178 (0 + x1).toNat ≠ (-1)) ∧ (((0 ≤ x2) ∧ (x2 ≤ 3)) ∧ (I 178 (0 + x1).toNat ≠ x2))) → mNb (kpI (up2 I 156 0 0)))
    (v6 : ((((0 ≤ x1) ∧ (x1 < I 156 15)))) → ((I 178 (0 + x1).toNat ≠ (-1)) ∧ (((0 ≤ x2) ∧ (x2 ≤ 3)) ∧ (I 178 (0 + x1).toNat ≠ x2))) → 0 ≤ x1 ∧ x1 < ((kpI (up2 I 156 0 0)) 156 15))
    (v7 : ((((0 ≤ x1) ∧ (x1 < I 156 15)))) → (¬((I 178 (0 + x1).toNat ≠ (-1)) ∧ (((0 ≤ x2) ∧ (x2 ≤ 3)) ∧ (I 178 (0 + x1).toNat ≠ x2)))) → -2147483648 ≤ I 158 1 + 1 ∧ I 158 1 + 1 ≤ 2147483647) : Ca (d + 3) mX12_swap [vR (some (22, 0, 156)), vI x1, vI x2] (I, S) (.inl (some (vI (if (((0 ≤ x1) ∧ (x1 < I 156 15))) then ((if (I 178 (0 + x1).toNat ≠ (-1)) ∧ (((0 ≤ x2) ∧ (x2 ≤ 3)) ∧ (I 178 (0 + x1).toNat ≠ x2)) then ((bcn (chM (kpI (up2 I 156 0 0)) 0 x1 x2) 15) : Int) else (-1)) : Int) else 0)))) ((if (((0 ≤ x1) ∧ (x1 < I 156 15))) then (if (I 178 (0 + x1).toNat ≠ (-1)) ∧ (((0 ≤ x2) ∧ (x2 ≤ 3)) ∧ (I 178 (0 + x1).toNat ≠ x2)) then (swI (kpI (up2 I 156 0 0)) 0 x1 x2) else (up2 (up2 I 156 0 0) 158 (1) (I 158 1 + 1))) else (up2 (up2 I 156 0 0) 156 0 1)), S) :=
  Ca.of rfl rfl (
  (Classical.em ((((0 ≤ x1) ∧ (x1 < I 156 15))))).elim (fun c1 => 
    b_X12_swap_0  (c_X12_isSpot_y hl0 (by first | decide | exact (show 0 = 0 from by decide)) c1) (
    b_X12_swap_10  (fun _ => 
      b_X12_swap_15  (c_X12_canSwap hl0 (v1 c1) (v2 c1)) (
      b_X12_swap_22  (fun c3' => have c3 : (I 178 (0 + x1).toNat ≠ (-1)) ∧ (((0 ≤ x2) ∧ (x2 ≤ 3)) ∧ (I 178 (0 + x1).toNat ≠ x2)) := b2t c3'; 
        b_X12_swap_31  (c_X12_keeps hl0 (v3 c1 c3)) (
        b_X12_swap_35  (c_X12_swaps hl0 (by first | decide | exact (show (0 : Int) = 0 ∨ (0 : Int) = 18 from by decide)) (v4 c1 c3) (v5 c1 c3) (v6 c1 c3)) (ev_ret2 ((if_pos c3).symm.trans (if_pos c1).symm) (prEq ((if_pos c3).symm.trans (if_pos c1).symm) rfl) (b_X12_swap_42 )))) (fun c4' => have c4 : ¬((I 178 (0 + x1).toNat ≠ (-1)) ∧ (((0 ≤ x2) ∧ (x2 ≤ 3)) ∧ (I 178 (0 + x1).toNat ≠ x2))) := b2f c4'; 
        b_X12_swap_25  (c_X12_refuses hl0 (by first | decide | exact (show 0 ≤ (1 : Int) ∧ (1 : Int) < (3 : Nat) from by decide)) (v7 c1 c4)) (ev_ret2 ((if_neg c4).symm.trans (if_pos c1).symm) (prEq ((if_neg c4).symm.trans (if_pos c1).symm) rfl) (b_X12_swap_30 ))))) (fun c => absurd c (by decide)))) (fun c2 => 
    b_X12_swap_0  (c_X12_isSpot_n hl0 (by first | decide | exact (show 0 = 0 from by decide)) c2) (
    b_X12_swap_10  (fun c => absurd c (by decide)) (fun _ => ev_ret2 ((if_neg (fun q => c2 q)).symm) (prEq ((if_neg (fun q => c2 q)).symm) rfl) (b_X12_swap_13 )))))
end
