noncomputable section
abbrev L_X12_isMap_2 (d : Nat) (a0 : Nat) (x1 : Int) (I : Nat → Nat → Int) (S : PS) (v : Int) (h1 : PM) : Prop := Ev (d + 1) mX12_isMap (2, [some (vR (some (22, 0, a0))), some (vI x1), none, none, none, none], [], (I, S)) (.inl (some (vI v)), h1)
abbrev L_X12_isMap_12 (d : Nat) (a0 : Nat) (x1 : Int) (x2 : Int) (I : Nat → Nat → Int) (S : PS) (v : Int) (h1 : PM) : Prop := Ev (d + 1) mX12_isMap (12, [some (vR (some (22, 0, a0))), some (vI x1), some (vI x2), none, none, none], [], (I, S)) (.inl (some (vI v)), h1)
abbrev L_X12_isMap_61 (d : Nat) (a0 : Nat) (x1 : Int) (I : Nat → Nat → Int) (S : PS) (v : Int) (h1 : PM) : Prop := Ev (d + 1) mX12_isMap (61, [some (vR (some (22, 0, a0))), some (vI x1), none, none, none, none], [], (I, S)) (.inl (some (vI v)), h1)
abbrev L_X12_isMap_71 (d : Nat) (a0 : Nat) (x1 : Int) (x2 : Int) (I : Nat → Nat → Int) (S : PS) (v : Int) (h1 : PM) : Prop := Ev (d + 1) mX12_isMap (71, [some (vR (some (22, 0, a0))), some (vI x1), some (vI x2), none, none, none], [], (I, S)) (.inl (some (vI v)), h1)
theorem w_X12_isMap_0 {d : Nat} {I : Nat → Nat → Int} {S : PS} {v : Int} {h1 : PM} (hl0 : LyX12 S)
    (k1 : L_X12_isMap_2 d 156 0 I S v h1) : Ca (d + 1) mX12_isMap [vR (some (22, 0, 156))] (I, S) (.inl (some (vI v))) h1 :=
  Ca.of rfl rfl (
  b_X12_isMap_0  (k1))
theorem w_X12_isMap_2 {d : Nat} {I : Nat → Nat → Int} {S : PS} {x1 : Int} {v : Int} {h1 : PM} (hl0 : LyX12 S)
    (k1 : (I 156 18 ≤ x1) → L_X12_isMap_61 d 156 0 I S v h1)
    (k2 : (x1 < I 156 18) → L_X12_isMap_12 d 156 x1 0 I S v h1) : L_X12_isMap_2 d 156 x1 I S v h1 :=
  
  b_X12_isMap_2  (fun (c1 : I 156 18 ≤ x1) => 
    b_X12_isMap_59  ((k1 c1))) (fun (c2 : x1 < I 156 18) => 
    b_X12_isMap_10  ((k2 c2)))
theorem w_X12_isMap_12 {d : Nat} {I : Nat → Nat → Int} {S : PS} {x1 x2 : Int} {v : Int} {h1 : PM} (hl0 : LyX12 S)
    (k1 : (I 164 (10 * x1).toNat ≤ x2) → L_X12_isMap_2 d 156 (x1 + 1) I S v h1)
    (k2 : (x2 < I 164 (10 * x1).toNat) → (I 164 (((10 * x1) + 1) + x2).toNat < I 156 18) → L_X12_isMap_12 d 156 x1 (x2 + 1) I S v h1)
    (r1 : (x2 < I 164 (10 * x1).toNat) → (I 156 18 ≤ I 164 (((10 * x1) + 1) + x2).toNat) → 0 = v)
    (e1 : (x2 < I 164 (10 * x1).toNat) → (I 156 18 ≤ I 164 (((10 * x1) + 1) + x2).toNat) → (I, S) = h1 := by intros; rfl)
    (v1 : -2147483648 ≤ 10 * x1 ∧ 10 * x1 ≤ 2147483647 := by intros; first | assumption | omega | (split <;> omega))
    (v2 : 0 ≤ 10 * x1 ∧ 10 * x1 < (120 : Nat) := by intros; first | assumption | omega | (split <;> omega))
    (v3 : (I 164 (10 * x1).toNat ≤ x2) → -2147483648 ≤ x1 + 1 ∧ x1 + 1 ≤ 2147483647 := by intros; first | assumption | omega | (split <;> omega))
    (v4 : (x2 < I 164 (10 * x1).toNat) → -2147483648 ≤ (10 * x1) + 1 ∧ (10 * x1) + 1 ≤ 2147483647 := by intros; first | assumption | omega | (split <;> omega))
    (v5 : (x2 < I 164 (10 * x1).toNat) → -2147483648 ≤ ((10 * x1) + 1) + x2 ∧ ((10 * x1) + 1) + x2 ≤ 2147483647 := by intros; first | assumption | omega | (split <;> omega))
    (v6 : (x2 < I 164 (10 * x1).toNat) → 0 ≤ ((10 * x1) + 1) + x2 ∧ ((10 * x1) + 1) + x2 < (120 : Nat) := by intros; first | assumption | omega | (split <;> omega))
    (v7 : (x2 < I 164 (10 * x1).toNat) → (I 164 (((10 * x1) + 1) + x2).toNat < I 156 18) → -2147483648 ≤ x2 + 1 ∧ x2 + 1 ≤ 2147483647 := by intros; first | assumption | omega | (split <;> omega)) : L_X12_isMap_12 d 156 x1 x2 I S v h1 :=
  
  b_X12_isMap_12 (ly_X12_24 hl0) v1 v2 (fun (c1 : I 164 (10 * x1).toNat ≤ x2) => 
    b_X12_isMap_53 (v3 c1) ((k1 c1))) (fun (c2 : x2 < I 164 (10 * x1).toNat) => 
    b_X12_isMap_25 (ly_X12_24 hl0) v1 (v4 c2) (v5 c2) (v6 c2) (fun (c3 : I 164 (((10 * x1) + 1) + x2).toNat < I 156 18) => 
      b_X12_isMap_47 (v7 c2 c3) ((k2 c2 c3))) (fun (c4 : I 156 18 ≤ I 164 (((10 * x1) + 1) + x2).toNat) => ev_ret2 (r1 c2 c4) (e1 c2 c4) (b_X12_isMap_45 )))
theorem w_X12_isMap_61 {d : Nat} {I : Nat → Nat → Int} {S : PS} {x1 : Int} {v : Int} {h1 : PM} (hl0 : LyX12 S)
    (k1 : (x1 < I 156 18) → L_X12_isMap_71 d 156 x1 0 I S v h1)
    (r1 : (I 156 18 ≤ x1) → 1 = v)
    (e1 : (I 156 18 ≤ x1) → (I, S) = h1 := by intros; rfl) : L_X12_isMap_61 d 156 x1 I S v h1 :=
  
  b_X12_isMap_61  (fun (c1 : I 156 18 ≤ x1) => ev_ret2 (r1 c1) (e1 c1) (b_X12_isMap_155 )) (fun (c2 : x1 < I 156 18) => 
    b_X12_isMap_69  ((k1 c2)))
theorem w_X12_isMap_71 {d : Nat} {I : Nat → Nat → Int} {S : PS} {x1 x2 : Int} {v : Int} {h1 : PM} (hl0 : LyX12 S)
    (k1 : (I 164 (10 * x1).toNat ≤ x2) → L_X12_isMap_61 d 156 (x1 + 1) I S v h1)
    (k2 : (x2 < I 164 (10 * x1).toNat) → ((fstB (npP (I 164) (nrF (I 164) x1 x2) (nrF (I 164) x1 (x2 + 1))) (I 164 (10 * (nrF (I 164) x1 x2)).toNat).toNat) ≠ (-1)) → ((nrF (I 164) (nrF (I 164) x1 x2) ((fstB (npP (I 164) (nrF (I 164) x1 x2) (nrF (I 164) x1 (x2 + 1))) (I 164 (10 * (nrF (I 164) x1 x2)).toNat).toNat) + 1)) = x1) → L_X12_isMap_71 d 156 x1 (x2 + 1) I S v h1)
    (r1 : (x2 < I 164 (10 * x1).toNat) → ((fstB (npP (I 164) (nrF (I 164) x1 x2) (nrF (I 164) x1 (x2 + 1))) (I 164 (10 * (nrF (I 164) x1 x2)).toNat).toNat) = (-1)) → 0 = v)
    (e1 : (x2 < I 164 (10 * x1).toNat) → ((fstB (npP (I 164) (nrF (I 164) x1 x2) (nrF (I 164) x1 (x2 + 1))) (I 164 (10 * (nrF (I 164) x1 x2)).toNat).toNat) = (-1)) → (I, S) = h1 := by intros; rfl)
    (r2 : (x2 < I 164 (10 * x1).toNat) → ((fstB (npP (I 164) (nrF (I 164) x1 x2) (nrF (I 164) x1 (x2 + 1))) (I 164 (10 * (nrF (I 164) x1 x2)).toNat).toNat) ≠ (-1)) → ((nrF (I 164) (nrF (I 164) x1 x2) ((fstB (npP (I 164) (nrF (I 164) x1 x2) (nrF (I 164) x1 (x2 + 1))) (I 164 (10 * (nrF (I 164) x1 x2)).toNat).toNat) + 1)) ≠ x1) → 0 = v)
    (e2 : (x2 < I 164 (10 * x1).toNat) → ((fstB (npP (I 164) (nrF (I 164) x1 x2) (nrF (I 164) x1 (x2 + 1))) (I 164 (10 * (nrF (I 164) x1 x2)).toNat).toNat) ≠ (-1)) → ((nrF (I 164) (nrF (I 164) x1 x2) ((fstB (npP (I 164) (nrF (I 164) x1 x2) (nrF (I 164) x1 (x2 + 1))) (I 164 (10 * (nrF (I 164) x1 x2)).toNat).toNat) + 1)) ≠ x1) → (I, S) = h1 := by intros; rfl)
    (v1 : -2147483648 ≤ 10 * x1 ∧ 10 * x1 ≤ 2147483647 := by intros; first | assumption | omega | (split <;> omega))
    (v2 : 0 ≤ 10 * x1 ∧ 10 * x1 < (120 : Nat) := by intros; first | assumption | omega | (split <;> omega))
    (v3 : (I 164 (10 * x1).toNat ≤ x2) → -2147483648 ≤ x1 + 1 ∧ x1 + 1 ≤ 2147483647 := by intros; first | assumption | omega | (split <;> omega))
    (v4 : (x2 < I 164 (10 * x1).toNat) → 0 ≤ x1 ∧ x1 < 12 := by intros; first | assumption | omega | (split <;> omega))
    (v5 : (x2 < I 164 (10 * x1).toNat) → 1 ≤ I 164 (10 * x1).toNat ∧ I 164 (10 * x1).toNat ≤ 9 := by intros; first | assumption | omega | (split <;> omega))
    (v6 : (x2 < I 164 (10 * x1).toNat) → 0 ≤ x2 ∧ x2 ≤ 100 := by intros; first | assumption | omega | (split <;> omega))
    (v7 : (x2 < I 164 (10 * x1).toNat) → -2147483648 ≤ x2 + 1 ∧ x2 + 1 ≤ 2147483647 := by intros; first | assumption | omega | (split <;> omega))
    (v8 : (x2 < I 164 (10 * x1).toNat) → 0 ≤ (x2 + 1) ∧ (x2 + 1) ≤ 100 := by intros; first | assumption | omega | (split <;> omega))
    (v9 : (x2 < I 164 (10 * x1).toNat) → 0 ≤ (nrF (I 164) x1 x2) ∧ (nrF (I 164) x1 x2) < 12 := by intros; first | assumption | omega | (split <;> omega))
    (v10 : (x2 < I 164 (10 * x1).toNat) → 0 ≤ I 164 (10 * (nrF (I 164) x1 x2)).toNat ∧ I 164 (10 * (nrF (I 164) x1 x2)).toNat ≤ 9 := by intros; first | assumption | omega | (split <;> omega))
    (v11 : (x2 < I 164 (10 * x1).toNat) → ((fstB (npP (I 164) (nrF (I 164) x1 x2) (nrF (I 164) x1 (x2 + 1))) (I 164 (10 * (nrF (I 164) x1 x2)).toNat).toNat) ≠ (-1)) → -2147483648 ≤ (fstB (npP (I 164) (nrF (I 164) x1 x2) (nrF (I 164) x1 (x2 + 1))) (I 164 (10 * (nrF (I 164) x1 x2)).toNat).toNat) + 1 ∧ (fstB (npP (I 164) (nrF (I 164) x1 x2) (nrF (I 164) x1 (x2 + 1))) (I 164 (10 * (nrF (I 164) x1 x2)).toNat).toNat) + 1 ≤ 2147483647 := by intros; first | assumption | omega | (split <;> omega))
    (v12 : (x2 < I 164 (10 * x1).toNat) → ((fstB (npP (I 164) (nrF (I 164) x1 x2) (nrF (I 164) x1 (x2 + 1))) (I 164 (10 * (nrF (I 164) x1 x2)).toNat).toNat) ≠ (-1)) → 1 ≤ I 164 (10 * (nrF (I 164) x1 x2)).toNat ∧ I 164 (10 * (nrF (I 164) x1 x2)).toNat ≤ 9 := by intros; first | assumption | omega | (split <;> omega))
    (v13 : (x2 < I 164 (10 * x1).toNat) → ((fstB (npP (I 164) (nrF (I 164) x1 x2) (nrF (I 164) x1 (x2 + 1))) (I 164 (10 * (nrF (I 164) x1 x2)).toNat).toNat) ≠ (-1)) → 0 ≤ ((fstB (npP (I 164) (nrF (I 164) x1 x2) (nrF (I 164) x1 (x2 + 1))) (I 164 (10 * (nrF (I 164) x1 x2)).toNat).toNat) + 1) ∧ ((fstB (npP (I 164) (nrF (I 164) x1 x2) (nrF (I 164) x1 (x2 + 1))) (I 164 (10 * (nrF (I 164) x1 x2)).toNat).toNat) + 1) ≤ 100 := by intros; first | assumption | omega | (split <;> omega)) : L_X12_isMap_71 d 156 x1 x2 I S v h1 :=
  
  b_X12_isMap_71 (ly_X12_24 hl0) v1 v2 (fun (c1 : I 164 (10 * x1).toNat ≤ x2) => 
    b_X12_isMap_149 (v3 c1) ((k1 c1))) (fun (c2 : x2 < I 164 (10 * x1).toNat) => 
    b_X12_isMap_84 (ly_X12_24 hl0) (k_X12_nearOf (by first | decide | exact (show 120 = 120 from by decide)) (v4 c2) (v5 c2) (v6 c2)) (
    b_X12_isMap_93 (ly_X12_24 hl0) (v7 c2) (k_X12_nearOf (by first | decide | exact (show 120 = 120 from by decide)) (v4 c2) (v5 c2) (v8 c2)) (
    b_X12_isMap_105 (ly_X12_24 hl0) (c_X12_nearPlace (by first | decide | exact (show 120 = 120 from by decide)) (v9 c2) (v10 c2)) (
    b_X12_isMap_117  (fun (c3 : (fstB (npP (I 164) (nrF (I 164) x1 x2) (nrF (I 164) x1 (x2 + 1))) (I 164 (10 * (nrF (I 164) x1 x2)).toNat).toNat) = (-1)) => ev_ret2 (r1 c2 c3) (e1 c2 c3) (b_X12_isMap_141 )) (fun (c4 : (fstB (npP (I 164) (nrF (I 164) x1 x2) (nrF (I 164) x1 (x2 + 1))) (I 164 (10 * (nrF (I 164) x1 x2)).toNat).toNat) ≠ (-1)) => 
      b_X12_isMap_125 (ly_X12_24 hl0) (v11 c2 c4) (k_X12_nearOf (by first | decide | exact (show 120 = 120 from by decide)) (v9 c2) (v12 c2 c4) (v13 c2 c4)) (
      b_X12_isMap_137  (fun (c5 : (nrF (I 164) (nrF (I 164) x1 x2) ((fstB (npP (I 164) (nrF (I 164) x1 x2) (nrF (I 164) x1 (x2 + 1))) (I 164 (10 * (nrF (I 164) x1 x2)).toNat).toNat) + 1)) = x1) => 
        b_X12_isMap_143 (v7 c2) ((k2 c2 c4 c5))) (fun (c6 : (nrF (I 164) (nrF (I 164) x1 x2) ((fstB (npP (I 164) (nrF (I 164) x1 x2) (nrF (I 164) x1 (x2 + 1))) (I 164 (10 * (nrF (I 164) x1 x2)).toNat).toNat) + 1)) ≠ x1) => ev_ret2 (r2 c2 c4 c6) (e2 c2 c4 c6) (b_X12_isMap_141 ))))))))
abbrev L_X12_ringOf_22 (d : Nat) (n0 : Nat) (a0 : Nat) (x1 : Int) (x2 : Int) (x3 : Int) (I : Nat → Nat → Int) (S : PS) (v : Int) (h1 : PM) : Prop := Ev (d + 1) mX12_ringOf (22, [some (vR (some (0, n0, a0))), some (vI x1), some (vI x2), some (vI x3)], [], (I, S)) (.inl (some (vI v)), h1)
theorem w_X12_ringOf_0 {d : Nat} {I : Nat → Nat → Int} {S : PS} {n0 a0 : Nat} {x1 : Int} {v : Int} {h1 : PM}
    (k1 : (I a0 ((20 * x1) + 1).toNat ≠ 0) → L_X12_ringOf_22 d n0 a0 x1 0 0 I S v h1)
    (r1 : (I a0 ((20 * x1) + 1).toNat = 0) → I a0 (20 * x1).toNat = v)
    (e1 : (I a0 ((20 * x1) + 1).toNat = 0) → (I, S) = h1 := by intros; rfl)
    (v1 : -2147483648 ≤ 20 * x1 ∧ 20 * x1 ≤ 2147483647 := by intros; first | assumption | omega | (split <;> omega))
    (v2 : -2147483648 ≤ (20 * x1) + 1 ∧ (20 * x1) + 1 ≤ 2147483647 := by intros; first | assumption | omega | (split <;> omega))
    (v3 : 0 ≤ (20 * x1) + 1 ∧ (20 * x1) + 1 < (n0 : Nat) := by intros; first | assumption | omega | (split <;> omega))
    (v4 : (I a0 ((20 * x1) + 1).toNat = 0) → 0 ≤ 20 * x1 ∧ 20 * x1 < (n0 : Nat) := by intros; first | assumption | omega | (split <;> omega)) : Ca (d + 1) mX12_ringOf [vR (some (0, n0, a0)), vI x1] (I, S) (.inl (some (vI v))) h1 :=
  Ca.of rfl rfl (
  b_X12_ringOf_0 v1 v2 v3 (fun (c1 : I a0 ((20 * x1) + 1).toNat ≠ 0) => 
    b_X12_ringOf_18  ((k1 c1))) (fun (c2 : I a0 ((20 * x1) + 1).toNat = 0) => ev_ret2 (r1 c2) (e1 c2) (b_X12_ringOf_11 v1 (v4 c2))))
theorem w_X12_ringOf_22 {d : Nat} {I : Nat → Nat → Int} {S : PS} {n0 a0 : Nat} {x1 x2 x3 : Int} {v : Int} {h1 : PM}
    (k1 : (x3 < (bdF (I a0) x1)) → L_X12_ringOf_22 d n0 a0 x1 (x2 + ((f_X12_outer I a0 x1 x3) - 1)) (x3 + 1) I S v h1)
    (r1 : ((bdF (I a0) x1) ≤ x3) → x2 = v)
    (e1 : ((bdF (I a0) x1) ≤ x3) → (I, S) = h1 := by intros; rfl)
    (v1 : n0 = 80 := by intros; first | assumption | omega | (split <;> omega))
    (v2 : 0 ≤ x1 ∧ x1 < 4 := by intros; first | assumption | omega | (split <;> omega))
    (v3 : 0 ≤ I a0 ((20 * x1) + 1).toNat ∧ I a0 ((20 * x1) + 1).toNat ≤ 7 := by intros; first | assumption | omega | (split <;> omega))
    (v4 : (x3 < (bdF (I a0) x1)) → mPc (I a0) x1 := by intros; first | assumption | omega | (split <;> omega))
    (v5 : (x3 < (bdF (I a0) x1)) → 0 ≤ x3 ∧ x3 ≤ I a0 ((20 * x1) + 1).toNat := by intros; first | assumption | omega | (split <;> omega))
    (v6 : (x3 < (bdF (I a0) x1)) → -2147483648 ≤ (f_X12_outer I a0 x1 x3) - 1 ∧ (f_X12_outer I a0 x1 x3) - 1 ≤ 2147483647 := by intros; first | assumption | omega | (split <;> omega))
    (v7 : (x3 < (bdF (I a0) x1)) → -2147483648 ≤ x2 + ((f_X12_outer I a0 x1 x3) - 1) ∧ x2 + ((f_X12_outer I a0 x1 x3) - 1) ≤ 2147483647 := by intros; first | assumption | omega | (split <;> omega))
    (v8 : (x3 < (bdF (I a0) x1)) → -2147483648 ≤ x3 + 1 ∧ x3 + 1 ≤ 2147483647 := by intros; first | assumption | omega | (split <;> omega)) : L_X12_ringOf_22 d n0 a0 x1 x2 x3 I S v h1 :=
  
  b_X12_ringOf_22  (k_X12_border v1 v2 v3) (
  b_X12_ringOf_28  (fun (c1 : (bdF (I a0) x1) ≤ x3) => ev_ret2 (r1 c1) (e1 c1) (b_X12_ringOf_48 )) (fun (c2 : x3 < (bdF (I a0) x1)) => 
    b_X12_ringOf_31  (k_X12_outer v1 v2 (v4 c2) (v5 c2)) (
    b_X12_ringOf_38 (v6 c2) (v7 c2) (v8 c2) ((k1 c2)))))
abbrev L_X12_laysEdges_28 (d : Nat) (a0 : Nat) (x1 : Int) (x2 : Int) (x3 : Int) (x4 : Int) (I : Nat → Nat → Int) (S : PS) (h1 : PM) : Prop := Ev (d + 1) mX12_laysEdges (28, [some (vR (some (22, 0, a0))), some (vI x1), some (vI x2), some (vI x3), some (vI x4), none, none, none, none], [], (I, S)) (.inl none, h1)
abbrev L_X12_laysEdges_57 (d : Nat) (a0 : Nat) (x1 : Int) (x2 : Int) (x3 : Int) (x4 : Int) (I : Nat → Nat → Int) (S : PS) (h1 : PM) : Prop := Ev (d + 1) mX12_laysEdges (57, [some (vR (some (22, 0, a0))), some (vI x1), some (vI x2), some (vI x3), some (vI x4), none, none, none, none], [], (I, S)) (.inl none, h1)
abbrev L_X12_laysEdges_85 (d : Nat) (a0 : Nat) (x1 : Int) (x2 : Int) (x3 : Int) (x4 : Int) (I : Nat → Nat → Int) (S : PS) (h1 : PM) : Prop := Ev (d + 1) mX12_laysEdges (85, [some (vR (some (22, 0, a0))), some (vI x1), some (vI x2), some (vI x3), some (vI x4), none, none, none, none], [], (I, S)) (.inl none, h1)
abbrev L_X12_laysEdges_170 (d : Nat) (a0 : Nat) (x1 : Int) (x2 : Int) (x3 : Int) (x4 : Int) (x5 : Int) (I : Nat → Nat → Int) (S : PS) (h1 : PM) : Prop := Ev (d + 1) mX12_laysEdges (170, [some (vR (some (22, 0, a0))), some (vI x1), some (vI x2), some (vI x3), some (vI x4), some (vI x5), none, none, none], [], (I, S)) (.inl none, h1)
abbrev L_X12_laysEdges_224 (d : Nat) (a0 : Nat) (x1 : Int) (x2 : Int) (x3 : Int) (x4 : Int) (x5 : Int) (x6 : Int) (x7 : Int) (x8 : Int) (I : Nat → Nat → Int) (S : PS) (h1 : PM) : Prop := Ev (d + 1) mX12_laysEdges (224, [some (vR (some (22, 0, a0))), some (vI x1), some (vI x2), some (vI x3), some (vI x4), some (vI x5), some (vI x6), some (vI x7), some (vI x8)], [], (I, S)) (.inl none, h1)
theorem w_X12_laysEdges_0 {d : Nat} {I : Nat → Nat → Int} {S : PS} {x1 : Int} {h1 : PM} (hl0 : LyX12 S)
    (k1 : L_X12_laysEdges_28 d 156 x1 (I 162 ((20 * x1) + 9).toNat) (I 162 ((20 * x1) + 1).toNat) 0 I S h1)
    (v1 : -2147483648 ≤ 20 * x1 ∧ 20 * x1 ≤ 2147483647 := by intros; first | assumption | omega | (split <;> omega))
    (v2 : -2147483648 ≤ (20 * x1) + 9 ∧ (20 * x1) + 9 ≤ 2147483647 := by intros; first | assumption | omega | (split <;> omega))
    (v3 : 0 ≤ (20 * x1) + 9 ∧ (20 * x1) + 9 < (80 : Nat) := by intros; first | assumption | omega | (split <;> omega))
    (v4 : -2147483648 ≤ (20 * x1) + 1 ∧ (20 * x1) + 1 ≤ 2147483647 := by intros; first | assumption | omega | (split <;> omega))
    (v5 : 0 ≤ (20 * x1) + 1 ∧ (20 * x1) + 1 < (80 : Nat) := by intros; first | assumption | omega | (split <;> omega)) : Ca (d + 1) mX12_laysEdges [vR (some (22, 0, 156)), vI x1] (I, S) (.inl none) h1 :=
  Ca.of rfl rfl (
  b_X12_laysEdges_0 (ly_X12_22 hl0) v1 v2 v3 v1 v4 v5 (k1))
theorem w_X12_laysEdges_28 {d : Nat} {I : Nat → Nat → Int} {S : PS} {x1 x2 x3 x4 : Int} {h1 : PM} (hl0 : LyX12 S)
    (k1 : (15 ≤ x4) → L_X12_laysEdges_57 d 156 x1 x2 x3 0 I S h1)
    (k2 : (x4 < 15) → L_X12_laysEdges_28 d 156 x1 x2 x3 (x4 + 1) (up2 I 166 (((15 * x1) + x4).toNat) 0) S h1)
    (v1 : (x4 < 15) → -2147483648 ≤ 15 * x1 ∧ 15 * x1 ≤ 2147483647 := by intros; first | assumption | omega | (split <;> omega))
    (v2 : (x4 < 15) → -2147483648 ≤ (15 * x1) + x4 ∧ (15 * x1) + x4 ≤ 2147483647 := by intros; first | assumption | omega | (split <;> omega))
    (v3 : (x4 < 15) → 0 ≤ (15 * x1) + x4 ∧ (15 * x1) + x4 < (60 : Nat) := by intros; first | assumption | omega | (split <;> omega))
    (v4 : (x4 < 15) → -2147483648 ≤ x4 + 1 ∧ x4 + 1 ≤ 2147483647 := by intros; first | assumption | omega | (split <;> omega)) : L_X12_laysEdges_28 d 156 x1 x2 x3 x4 I S h1 :=
  
  b_X12_laysEdges_28  (fun (c1 : 15 ≤ x4) => 
    b_X12_laysEdges_54  ((k1 c1))) (fun (c2 : x4 < 15) => 
    b_X12_laysEdges_35 (ly_X12_26 hl0) (v1 c2) (v2 c2) (v3 c2) (v4 c2) ((k2 c2)))
theorem w_X12_laysEdges_57 {d : Nat} {I : Nat → Nat → Int} {S : PS} {x1 x2 x3 x4 : Int} {h1 : PM} (hl0 : LyX12 S)
    (k1 : (x2 ≤ x4) → L_X12_laysEdges_85 d 156 x1 x2 x3 0 I S h1)
    (k2 : (x4 < x2) → L_X12_laysEdges_57 d 156 x1 x2 x3 (x4 + 1) (up1 I 166 (lkO (I 166) (15 * x1) x4 ((x4 + 1) % x2))) S h1)
    (v1 : (x4 < x2) → -2147483648 ≤ x4 + 1 ∧ x4 + 1 ≤ 2147483647 := by intros; first | assumption | omega | (split <;> omega))
    (v2 : (x4 < x2) → (0 ≤ x4 + 1 ∧ x4 + 1 ≤ 2147483647) ∧ 0 < x2 ∧ x2 ≤ 2147483647 := by intros; first | assumption | omega | (split <;> omega))
    (v3 : (x4 < x2) → 0 ≤ x1 ∧ x1 < 4 := by intros; first | assumption | omega | (split <;> omega))
    (v4 : (x4 < x2) → 0 ≤ x4 ∧ x4 < 15 := by intros; first | assumption | omega | (split <;> omega))
    (v5 : (x4 < x2) → 0 ≤ ((x4 + 1) % x2) ∧ ((x4 + 1) % x2) < 15 := by intros; first | assumption | omega | (split <;> omega)) : L_X12_laysEdges_57 d 156 x1 x2 x3 x4 I S h1 :=
  
  b_X12_laysEdges_57  (fun (c1 : x2 ≤ x4) => 
    b_X12_laysEdges_82  ((k1 c1))) (fun (c2 : x4 < x2) => 
    b_X12_laysEdges_63 (v1 c2) (v2 c2) (k_X12_joins hl0 (v3 c2) (v4 c2) (v5 c2)) (
    b_X12_laysEdges_76 (v1 c2) ((k2 c2))))
theorem w_X12_laysEdges_85 {d : Nat} {I : Nat → Nat → Int} {S : PS} {x1 x2 x3 x4 : Int} {h1 : PM} (hl0 : LyX12 S)
    (k1 : (x3 ≤ x4) → L_X12_laysEdges_170 d 156 x1 x2 x3 0 0 I S h1)
    (k2 : (x4 < x3) → (x3 ≤ x4 + 1) → (x3 ≠ I 162 (20 * x1).toNat) → L_X12_laysEdges_85 d 156 x1 x2 x3 (x4 + 1) (up1 I 166 (lkO (I 166) (15 * x1) x2 (x2 + 1 + x4))) S h1)
    (k3 : (x4 < x3) → (x3 ≤ x4 + 1) → (x3 = I 162 (20 * x1).toNat) → L_X12_laysEdges_85 d 156 x1 x2 x3 (x4 + 1) (up1 (up1 I 166 (lkO (I 166) (15 * x1) x2 (x2 + 1 + x4))) 166 (lkO ((up1 I 166 (lkO (I 166) (15 * x1) x2 (x2 + 1 + x4))) 166) (15 * x1) (x2 + 1 + x4) (x2 + 1))) S h1)
    (k4 : (x4 < x3) → (x4 + 1 < x3) → L_X12_laysEdges_85 d 156 x1 x2 x3 (x4 + 1) (up1 (up1 I 166 (lkO (I 166) (15 * x1) x2 (x2 + 1 + x4))) 166 (lkO ((up1 I 166 (lkO (I 166) (15 * x1) x2 (x2 + 1 + x4))) 166) (15 * x1) (x2 + 1 + x4) (x2 + 2 + x4))) S h1)
    (v1 : (x4 < x3) → -2147483648 ≤ x2 + 1 ∧ x2 + 1 ≤ 2147483647 := by intros; first | assumption | omega | (split <;> omega))
    (v2 : (x4 < x3) → -2147483648 ≤ x2 + 1 + x4 ∧ x2 + 1 + x4 ≤ 2147483647 := by intros; first | assumption | omega | (split <;> omega))
    (v3 : (x4 < x3) → 0 ≤ x1 ∧ x1 < 4 := by intros; first | assumption | omega | (split <;> omega))
    (v4 : (x4 < x3) → 0 ≤ x2 ∧ x2 < 15 := by intros; first | assumption | omega | (split <;> omega))
    (v5 : (x4 < x3) → 0 ≤ (x2 + 1 + x4) ∧ (x2 + 1 + x4) < 15 := by intros; first | assumption | omega | (split <;> omega))
    (v6 : (x4 < x3) → -2147483648 ≤ x4 + 1 ∧ x4 + 1 ≤ 2147483647 := by intros; first | assumption | omega | (split <;> omega))
    (v7 : (x4 < x3) → (x3 ≤ x4 + 1) → -2147483648 ≤ 20 * x1 ∧ 20 * x1 ≤ 2147483647 := by intros; first | assumption | omega | (split <;> omega))
    (v8 : (x4 < x3) → (x3 ≤ x4 + 1) → 0 ≤ 20 * x1 ∧ 20 * x1 < (80 : Nat) := by intros; first | assumption | omega | (split <;> omega))
    (v9 : (x4 < x3) → (x3 ≤ x4 + 1) → (x3 = I 162 (20 * x1).toNat) → 0 ≤ (x2 + 1) ∧ (x2 + 1) < 15 := by intros; first | assumption | omega | (split <;> omega))
    (v10 : (x4 < x3) → (x4 + 1 < x3) → -2147483648 ≤ x2 + 2 ∧ x2 + 2 ≤ 2147483647 := by intros; first | assumption | omega | (split <;> omega))
    (v11 : (x4 < x3) → (x4 + 1 < x3) → -2147483648 ≤ x2 + 2 + x4 ∧ x2 + 2 + x4 ≤ 2147483647 := by intros; first | assumption | omega | (split <;> omega))
    (v12 : (x4 < x3) → (x4 + 1 < x3) → 0 ≤ (x2 + 2 + x4) ∧ (x2 + 2 + x4) < 15 := by intros; first | assumption | omega | (split <;> omega)) : L_X12_laysEdges_85 d 156 x1 x2 x3 x4 I S h1 :=
  
  b_X12_laysEdges_85  (fun (c1 : x3 ≤ x4) => 
    b_X12_laysEdges_164  ((k1 c1))) (fun (c2 : x4 < x3) => 
    b_X12_laysEdges_91 (v1 c2) (v2 c2) (k_X12_joins hl0 (v3 c2) (v4 c2) (v5 c2)) (
    b_X12_laysEdges_103 (v6 c2) (fun (c3 : x3 ≤ x4 + 1) => 
      b_X12_laysEdges_131 (ly_X12_22 hl0) (v7 c2 c3) (v8 c2 c3) (fun (c5 : x3 ≠ I 162 (20 * x1).toNat) => 
        b_X12_laysEdges_158 (v6 c2) ((k2 c2 c3 c5))) (fun (c6 : x3 = I 162 (20 * x1).toNat) => 
        b_X12_laysEdges_144 (v1 c2) (v2 c2) (v1 c2) (k_X12_joins hl0 (v3 c2) (v5 c2) (v9 c2 c3 c6)) (
        b_X12_laysEdges_158 (v6 c2) ((k3 c2 c3 c6))))) (fun (c4 : x4 + 1 < x3) => 
      b_X12_laysEdges_111 (v1 c2) (v2 c2) (v10 c2 c4) (v11 c2 c4) (k_X12_joins hl0 (v3 c2) (v5 c2) (v12 c2 c4)) (
      b_X12_laysEdges_128  (
      b_X12_laysEdges_158 (v6 c2) ((k4 c2 c4)))))))
theorem w_X12_laysEdges_170 {d : Nat} {I : Nat → Nat → Int} {S : PS} {x1 x2 x3 x4 x5 : Int} {h1 : PM} (hl0 : LyX12 S)
    (k1 : (x5 < (bdF (I 162) x1)) → L_X12_laysEdges_224 d 156 x1 x2 x3 x4 x5 (if x5 ≠ x3 then (x2 + 1 + x5 : Int) else x2) (if x3 ≠ 0 then ((f_X12_outer I 162 x1 x5) : Int) else x2) 0 I S h1)
    (e1 : ((bdF (I 162) x1) ≤ x5) → (I, S) = h1 := by intros; rfl)
    (v1 : 0 ≤ x1 ∧ x1 < 4 := by intros; first | assumption | omega | (split <;> omega))
    (v2 : 0 ≤ I 162 ((20 * x1) + 1).toNat ∧ I 162 ((20 * x1) + 1).toNat ≤ 7 := by intros; first | assumption | omega | (split <;> omega))
    (v3 : (x5 < (bdF (I 162) x1)) → (x5 ≠ x3) → -2147483648 ≤ x2 + 1 ∧ x2 + 1 ≤ 2147483647 := by intros; first | assumption | omega | (split <;> omega))
    (v4 : (x5 < (bdF (I 162) x1)) → (x5 ≠ x3) → -2147483648 ≤ x2 + 1 + x5 ∧ x2 + 1 + x5 ≤ 2147483647 := by intros; first | assumption | omega | (split <;> omega))
    (v5 : (x5 < (bdF (I 162) x1)) → (x3 ≠ 0) → mPc (I 162) x1 := by intros; first | assumption | omega | (split <;> omega))
    (v6 : (x5 < (bdF (I 162) x1)) → (x3 ≠ 0) → 0 ≤ x5 ∧ x5 ≤ I 162 ((20 * x1) + 1).toNat := by intros; first | assumption | omega | (split <;> omega)) : L_X12_laysEdges_170 d 156 x1 x2 x3 x4 x5 I S h1 :=
  
  b_X12_laysEdges_170 (ly_X12_22 hl0) (k_X12_border (by first | decide | exact (show 80 = 80 from by decide)) v1 v2) (
  b_X12_laysEdges_180  (fun (c1 : (bdF (I 162) x1) ≤ x5) => ev_retV (e1 c1) (b_X12_laysEdges_266 )) (fun (c2 : x5 < (bdF (I 162) x1)) => 
    have K4 : ∀ us0 : Int, us0 = (if x5 ≠ x3 then (x2 + 1 + x5 : Int) else x2) → Ev (d + 1) mX12_laysEdges (199, [some (vR (some (22, 0, 156))), some (vI x1), some (vI x2), some (vI x3), some (vI x4), some (vI x5), none, none, none], [vI us0], (I, S)) (.inl none, h1) := fun us0 e_us0 => by subst e_us0; exact (
      have K7 : ∀ us0 : Int, us0 = (if x3 ≠ 0 then ((f_X12_outer I 162 x1 x5) : Int) else x2) → Ev (d + 1) mX12_laysEdges (219, [some (vR (some (22, 0, 156))), some (vI x1), some (vI x2), some (vI x3), some (vI x4), some (vI x5), some (vI (if x5 ≠ x3 then (x2 + 1 + x5 : Int) else x2)), none, none], [vI us0], (I, S)) (.inl none, h1) := fun us0 e_us0 => by subst e_us0; exact (
        b_X12_laysEdges_219  ((k1 c2)))
      
      b_X12_laysEdges_199  (fun (c6 : x3 ≠ 0) => 
        b_X12_laysEdges_209 (ly_X12_22 hl0) (k_X12_outer (by first | decide | exact (show 80 = 80 from by decide)) v1 (v5 c2 c6) (v6 c2 c6)) (K7 (f_X12_outer I 162 x1 x5) ((if_pos c6).symm))) (fun (c7 : x3 = 0) => 
        b_X12_laysEdges_205  (K7 x2 ((if_neg (fun q => q c7)).symm))))
    
    b_X12_laysEdges_183  (fun (c3 : x5 ≠ x3) => 
      b_X12_laysEdges_193 (v3 c2 c3) (v4 c2 c3) (K4 (x2 + 1 + x5) ((if_pos c3).symm))) (fun (c4 : x5 = x3) => 
      b_X12_laysEdges_189  (K4 x2 ((if_neg (fun q => q c4)).symm)))))
theorem w_X12_laysEdges_224 {d : Nat} {I : Nat → Nat → Int} {S : PS} {x1 x2 x3 x4 x5 x6 x7 x8 : Int} {h1 : PM} (hl0 : LyX12 S)
    (k1 : (x7 ≤ x8) → L_X12_laysEdges_170 d 156 x1 x2 x3 (x4 + (x7 - 1)) (x5 + 1) I S h1)
    (k2 : (x8 < x7) → L_X12_laysEdges_224 d 156 x1 x2 x3 x4 x5 x6 x7 (x8 + 1) (up1 I 166 (lkO (I 166) (15 * x1) x6 ((x4 + x8) % x2))) S h1)
    (v1 : (x7 ≤ x8) → -2147483648 ≤ x7 - 1 ∧ x7 - 1 ≤ 2147483647 := by intros; first | assumption | omega | (split <;> omega))
    (v2 : (x7 ≤ x8) → -2147483648 ≤ x4 + (x7 - 1) ∧ x4 + (x7 - 1) ≤ 2147483647 := by intros; first | assumption | omega | (split <;> omega))
    (v3 : (x7 ≤ x8) → -2147483648 ≤ x5 + 1 ∧ x5 + 1 ≤ 2147483647 := by intros; first | assumption | omega | (split <;> omega))
    (v4 : (x8 < x7) → -2147483648 ≤ x4 + x8 ∧ x4 + x8 ≤ 2147483647 := by intros; first | assumption | omega | (split <;> omega))
    (v5 : (x8 < x7) → (0 ≤ x4 + x8 ∧ x4 + x8 ≤ 2147483647) ∧ 0 < x2 ∧ x2 ≤ 2147483647 := by intros; first | assumption | omega | (split <;> omega))
    (v6 : (x8 < x7) → 0 ≤ x1 ∧ x1 < 4 := by intros; first | assumption | omega | (split <;> omega))
    (v7 : (x8 < x7) → 0 ≤ x6 ∧ x6 < 15 := by intros; first | assumption | omega | (split <;> omega))
    (v8 : (x8 < x7) → 0 ≤ ((x4 + x8) % x2) ∧ ((x4 + x8) % x2) < 15 := by intros; first | assumption | omega | (split <;> omega))
    (v9 : (x8 < x7) → -2147483648 ≤ x8 + 1 ∧ x8 + 1 ≤ 2147483647 := by intros; first | assumption | omega | (split <;> omega)) : L_X12_laysEdges_224 d 156 x1 x2 x3 x4 x5 x6 x7 x8 I S h1 :=
  
  b_X12_laysEdges_224  (fun (c1 : x7 ≤ x8) => 
    b_X12_laysEdges_251 (v1 c1) (v2 c1) (v3 c1) ((k1 c1))) (fun (c2 : x8 < x7) => 
    b_X12_laysEdges_231 (v4 c2) (v5 c2) (k_X12_joins hl0 (v6 c2) (v7 c2) (v8 c2)) (
    b_X12_laysEdges_245 (v9 c2) ((k2 c2))))
end
