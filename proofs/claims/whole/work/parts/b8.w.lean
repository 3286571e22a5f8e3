noncomputable section
abbrev L_X12_free_57 (d : Nat) (a0 : Nat) (x1 : Int) (x2 : Int) (x3 : Int) (I : Nat → Nat → Int) (S : PS) (v : Int) (h1 : PM) : Prop := Ev (d + 4) mX12_free (57, [some (vR (some (22, 0, a0))), some (vI x1), some (vI x2), some (vI x3), none, none], [], (I, S)) (.inl (some (vI v)), h1)
abbrev L_X12_free_65 (d : Nat) (a0 : Nat) (x1 : Int) (x2 : Int) (x3 : Int) (x4 : Int) (I : Nat → Nat → Int) (S : PS) (v : Int) (h1 : PM) : Prop := Ev (d + 4) mX12_free (65, [some (vR (some (22, 0, a0))), some (vI x1), some (vI x2), some (vI x3), some (vI x4), none], [], (I, S)) (.inl (some (vI v)), h1)
abbrev L_X12_free_77 (d : Nat) (a0 : Nat) (x1 : Int) (x2 : Int) (x3 : Int) (x4 : Int) (x5 : Int) (I : Nat → Nat → Int) (S : PS) (v : Int) (h1 : PM) : Prop := Ev (d + 4) mX12_free (77, [some (vR (some (22, 0, a0))), some (vI x1), some (vI x2), some (vI x3), some (vI x4), some (vI x5)], [], (I, S)) (.inl (some (vI v)), h1)
theorem w_X12_free_0 {d : Nat} {I : Nat → Nat → Int} {S : PS} {x1 x2 : Int} {v : Int} {h1 : PM} (hl0 : LyX12 S)
    (k1 : ((((0 ≤ x1) ∧ (x1 < I 156 15)))) → ((((0 ≤ x2) ∧ (x2 ≤ 1)))) → (I 178 x1.toNat = (-1)) → ((frF (up2 I 156 0 0) 0 x1 (I 161 (10 * x1).toNat).toNat) = 0) → L_X12_free_57 d 156 x1 x2 1 (up2 I 156 0 0) S v h1)
    (r1 : ((((0 ≤ x1) ∧ (x1 < I 156 15)))) → ((((0 ≤ x2) ∧ (x2 ≤ 1)))) → (I 178 x1.toNat = (-1)) → ((frF (up2 I 156 0 0) 0 x1 (I 161 (10 * x1).toNat).toNat) ≠ 0) → (if x2 ≠ 0 then ((-1) : Int) else 0) = v)
    (e1 : ((((0 ≤ x1) ∧ (x1 < I 156 15)))) → ((((0 ≤ x2) ∧ (x2 ≤ 1)))) → (I 178 x1.toNat = (-1)) → ((frF (up2 I 156 0 0) 0 x1 (I 161 (10 * x1).toNat).toNat) ≠ 0) → ((up2 I 156 0 0), S) = h1 := by intros; first | rfl | (exfalso; omega) | contradiction | (exfalso; simp_all; done))
    (r2 : ((((0 ≤ x1) ∧ (x1 < I 156 15)))) → ((((0 ≤ x2) ∧ (x2 ≤ 1)))) → (I 178 x1.toNat ≠ (-1)) → (-1) = v)
    (e2 : ((((0 ≤ x1) ∧ (x1 < I 156 15)))) → ((((0 ≤ x2) ∧ (x2 ≤ 1)))) → (I 178 x1.toNat ≠ (-1)) → ((up2 I 156 0 0), S) = h1 := by intros; first | rfl | (exfalso; omega) | contradiction | (exfalso; simp_all; done))
    (r3 : ((((0 ≤ x1) ∧ (x1 < I 156 15)))) → (¬(((0 ≤ x2) ∧ (x2 ≤ 1)))) → 0 = v)
    (e3 : ((((0 ≤ x1) ∧ (x1 < I 156 15)))) → (¬(((0 ≤ x2) ∧ (x2 ≤ 1)))) → ((up2 (up2 I 156 0 0) 156 0 1), S) = h1 := by intros; first | rfl | (exfalso; omega) | contradiction | (exfalso; simp_all; done))
    (r4 : (¬(((0 ≤ x1) ∧ (x1 < I 156 15)))) → 0 = v)
    (e4 : (¬(((0 ≤ x1) ∧ (x1 < I 156 15)))) → ((up2 (up2 I 156 0 0) 156 0 1), S) = h1 := by intros; first | rfl | (exfalso; omega) | contradiction | (exfalso; simp_all; done))
    (v1 : ((((0 ≤ x1) ∧ (x1 < I 156 15)))) → ((((0 ≤ x2) ∧ (x2 ≤ 1)))) → 0 ≤ x1 ∧ x1 < (36 : Nat) := by intros; first | assumption | omega | (split <;> omega))
    (v2 : ((((0 ≤ x1) ∧ (x1 < I 156 15)))) → ((((0 ≤ x2) ∧ (x2 ≤ 1)))) → (I 178 x1.toNat = (-1)) → 0 ≤ x1 ∧ x1 < 12 := by intros; first | assumption | omega | (split <;> omega))
    (v3 : ((((0 ≤ x1) ∧ (x1 < I 156 15)))) → ((((0 ≤ x2) ∧ (x2 ≤ 1)))) → (I 178 x1.toNat = (-1)) → 0 ≤ I 161 (10 * x1).toNat ∧ I 161 (10 * x1).toNat ≤ 9 := by intros; first | assumption | omega | (split <;> omega))
    (v4 : ((((0 ≤ x1) ∧ (x1 < I 156 15)))) → ((((0 ≤ x2) ∧ (x2 ≤ 1)))) → (I 178 x1.toNat = (-1)) → ∀ k : Nat, (k : Int) < I 161 (10 * x1).toNat → 0 ≤ I 161 (((10 * x1) + 1) + (k : Int)).toNat ∧ I 161 (((10 * x1) + 1) + (k : Int)).toNat < 12 := by intros; first | assumption | omega | (split <;> omega)) : Ca (d + 4) mX12_free [vR (some (22, 0, 156)), vI x1, vI x2] (I, S) (.inl (some (vI v))) h1 :=
  Ca.of rfl rfl (
  (Classical.em ((((0 ≤ x1) ∧ (x1 < I 156 15))))).elim (fun c1 => 
    b_X12_free_0  (c_X12_isSpot_y hl0 (by first | decide | exact (show 0 = 0 from by decide)) c1) (
    b_X12_free_10  (fun c => absurd c (by decide)) (fun _ => 
      (Classical.em ((((0 ≤ x2) ∧ (x2 ≤ 1))))).elim (fun c3 => 
        b_X12_free_13  (c_X12_isWhat_y hl0 (by first | decide | exact (show 0 = 0 from by decide)) c3) (
        b_X12_free_19  (fun _ => 
          b_X12_free_24 (ly_X12_39 hl0) (v1 c1 c3) (fun (c5 : I 178 x1.toNat = (-1)) => 
            b_X12_free_36  (c_X12_freeFor hl0 (by first | decide | exact (show (0 : Int) = 0 ∨ (0 : Int) = 18 from by decide)) (v2 c1 c3 c5) (v3 c1 c3 c5) (v4 c1 c3 c5)) (
            b_X12_free_42  (fun (c7 : (frF (up2 I 156 0 0) 0 x1 (I 161 (10 * x1).toNat).toNat) = 0) => 
              b_X12_free_55  ((k1 c1 c3 c5 c7))) (fun (c8 : (frF (up2 I 156 0 0) 0 x1 (I 161 (10 * x1).toNat).toNat) ≠ 0) => 
              have K10 : ∀ us0 : Int, us0 = (if x2 ≠ 0 then ((-1) : Int) else 0) → Ev (d + 4) mX12_free (54, [some (vR (some (22, 0, 156))), some (vI x1), some (vI x2), none, none, none], [vI us0], ((up2 I 156 0 0), S)) (.inl (some (vI v)), h1) := fun us0 e_us0 => by subst e_us0; exact (ev_ret2 (r1 c1 c3 c5 c8) (e1 c1 c3 c5 c8) (b_X12_free_54 ))
              
              b_X12_free_45  (fun (c9 : x2 ≠ 0) => 
                b_X12_free_53  (K10 (-1) ((if_pos c9).symm))) (fun (c10 : x2 = 0) => 
                b_X12_free_49  (K10 0 ((if_neg (fun q => q c10)).symm)))))) (fun (c6 : I 178 x1.toNat ≠ (-1)) => ev_ret2 (r2 c1 c3 c6) (e2 c1 c3 c6) (b_X12_free_34 ))) (fun c => absurd c (by decide)))) (fun c4 => 
        b_X12_free_13  (c_X12_isWhat_n hl0 (by first | decide | exact (show 0 = 0 from by decide)) c4) (
        b_X12_free_19  (fun c => absurd c (by decide)) (fun _ => ev_ret2 (r3 c1 c4) (e3 c1 c4) (b_X12_free_22 ))))))) (fun c2 => 
    b_X12_free_0  (c_X12_isSpot_n hl0 (by first | decide | exact (show 0 = 0 from by decide)) c2) (
    b_X12_free_10  (fun _ => ev_ret2 (r4 c2) (e4 c2) (b_X12_free_22 )) (fun c => absurd c (by decide)))))
theorem w_X12_free_57 {d : Nat} {I : Nat → Nat → Int} {S : PS} {x1 x2 x3 : Int} {v : Int} {h1 : PM} (hl0 : LyX12 S)
    (k1 : (x3 < 3) → L_X12_free_65 d 156 x1 x2 x3 0 I S v h1)
    (r1 : (3 ≤ x3) → (-1) = v)
    (e1 : (3 ≤ x3) → (I, S) = h1 := by intros; first | rfl | (exfalso; omega) | contradiction | (exfalso; simp_all; done)) : L_X12_free_57 d 156 x1 x2 x3 I S v h1 :=
  
  b_X12_free_57  (fun (c1 : 3 ≤ x3) => ev_ret2 (r1 c1) (e1 c1) (b_X12_free_174 )) (fun (c2 : x3 < 3) => 
    b_X12_free_62  ((k1 c2)))
theorem w_X12_free_65 {d : Nat} {I : Nat → Nat → Int} {S : PS} {x1 x2 x3 x4 : Int} {v : Int} {h1 : PM} (hl0 : LyX12 S)
    (k1 : (I 156 15 ≤ x4) → L_X12_free_57 d 156 x1 x2 (x3 + 1) I S v h1)
    (k2 : (x4 < I 156 15) → L_X12_free_77 d 156 x1 x2 x3 x4 0 I S v h1)
    (v1 : (I 156 15 ≤ x4) → -2147483648 ≤ x3 + 1 ∧ x3 + 1 ≤ 2147483647 := by intros; first | assumption | omega | (split <;> omega)) : L_X12_free_65 d 156 x1 x2 x3 x4 I S v h1 :=
  
  b_X12_free_65  (fun (c1 : I 156 15 ≤ x4) => 
    b_X12_free_168 (v1 c1) ((k1 c1))) (fun (c2 : x4 < I 156 15) => 
    b_X12_free_74  ((k2 c2)))
theorem w_X12_free_77 {d : Nat} {I : Nat → Nat → Int} {S : PS} {x1 x2 x3 x4 x5 : Int} {J1 : Nat → Nat → Int} {z1 : Bool} {v : Int} {h1 : PM} (hl0 : LyX12 S)
    (k1 : (4 ≤ x5) → L_X12_free_65 d 156 x1 x2 x3 (x4 + 1) I S v h1)
    (g1 : (x5 < 4) → ((I 178 (0 + x4).toNat ≠ (-1)) ∧ (((0 ≤ x5) ∧ (x5 ≤ 3)) ∧ (I 178 (0 + x4).toNat ≠ x5))) → (x3 ≠ 1) → Ca (d + 3) mX12_isFreed [vR (some (22, 0, 156)), vI x1] ((swI (trI I) 18 x4 x5), S) (.inl (some (vI (if z1 = true then (1 : Int) else 0)))) (J1, S))
    (k2 : (x5 < 4) → ((I 178 (0 + x4).toNat ≠ (-1)) ∧ (((0 ≤ x5) ∧ (x5 ≤ 3)) ∧ (I 178 (0 + x4).toNat ≠ x5))) → (x3 ≠ 1) → (¬(z1 = true)) → L_X12_free_77 d 156 x1 x2 x3 x4 (x5 + 1) J1 S v h1)
    (k3 : (x5 < 4) → ((I 178 (0 + x4).toNat ≠ (-1)) ∧ (((0 ≤ x5) ∧ (x5 ≤ 3)) ∧ (I 178 (0 + x4).toNat ≠ x5))) → (x3 = 1) → ((frF (swI (trI I) 18 x4 x5) 18 x1 (I 161 (10 * x1).toNat).toNat) = 0) → L_X12_free_77 d 156 x1 x2 x3 x4 (x5 + 1) (swI (trI I) 18 x4 x5) S v h1)
    (k4 : (x5 < 4) → (¬((I 178 (0 + x4).toNat ≠ (-1)) ∧ (((0 ≤ x5) ∧ (x5 ≤ 3)) ∧ (I 178 (0 + x4).toNat ≠ x5)))) → L_X12_free_77 d 156 x1 x2 x3 x4 (x5 + 1) I S v h1)
    (r1 : (x5 < 4) → ((I 178 (0 + x4).toNat ≠ (-1)) ∧ (((0 ≤ x5) ∧ (x5 ≤ 3)) ∧ (I 178 (0 + x4).toNat ≠ x5))) → (x3 ≠ 1) → (z1 = true) → (if x2 ≠ 0 then ((10 * x4) + x5 : Int) else x3) = v)
    (e1 : (x5 < 4) → ((I 178 (0 + x4).toNat ≠ (-1)) ∧ (((0 ≤ x5) ∧ (x5 ≤ 3)) ∧ (I 178 (0 + x4).toNat ≠ x5))) → (x3 ≠ 1) → (z1 = true) → (J1, S) = h1 := by intros; first | rfl | (exfalso; omega) | contradiction | (exfalso; simp_all; done))
    (r2 : (x5 < 4) → ((I 178 (0 + x4).toNat ≠ (-1)) ∧ (((0 ≤ x5) ∧ (x5 ≤ 3)) ∧ (I 178 (0 + x4).toNat ≠ x5))) → (x3 = 1) → ((frF (swI (trI I) 18 x4 x5) 18 x1 (I 161 (10 * x1).toNat).toNat) ≠ 0) → (if x2 ≠ 0 then ((10 * x4) + x5 : Int) else x3) = v)
    (e2 : (x5 < 4) → ((I 178 (0 + x4).toNat ≠ (-1)) ∧ (((0 ≤ x5) ∧ (x5 ≤ 3)) ∧ (I 178 (0 + x4).toNat ≠ x5))) → (x3 = 1) → ((frF (swI (trI I) 18 x4 x5) 18 x1 (I 161 (10 * x1).toNat).toNat) ≠ 0) → ((swI (trI I) 18 x4 x5), S) = h1 := by intros; first | rfl | (exfalso; omega) | contradiction | (exfalso; simp_all; done))
    (v1 : (4 ≤ x5) → -2147483648 ≤ x4 + 1 ∧ x4 + 1 ≤ 2147483647 := by intros; first | assumption | omega | (split <;> omega))
    (v2 : (x5 < 4) → -2147483648 ≤ (0 : Int) + x4 ∧ (0 : Int) + x4 ≤ 2147483647 := by intros; first | assumption | omega | (split <;> omega))
    (v3 : (x5 < 4) → 0 ≤ (0 : Int) + x4 ∧ (0 : Int) + x4 < (36 : Nat) := by intros; first | assumption | omega | (split <;> omega))
    (v4 : (x5 < 4) → ((I 178 (0 + x4).toNat ≠ (-1)) ∧ (((0 ≤ x5) ∧ (x5 ≤ 3)) ∧ (I 178 (0 + x4).toNat ≠ x5))) → mSp (trI I) := by intros; first | assumption | omega | (split <;> omega))
    (v5 : (x5 < 4) → ((I 178 (0 + x4).toNat ≠ (-1)) ∧ (((0 ≤ x5) ∧ (x5 ≤ 3)) ∧ (I 178 (0 + x4).toNat ≠ x5))) → mNb (trI I) := by intros; first | assumption | omega | (split <;> omega))
    (v6 : (x5 < 4) → ((I 178 (0 + x4).toNat ≠ (-1)) ∧ (((0 ≤ x5) ∧ (x5 ≤ 3)) ∧ (I 178 (0 + x4).toNat ≠ x5))) → 0 ≤ x4 ∧ x4 < (I 156 15) := by intros; first | assumption | omega | (split <;> omega))
    (v7 : (x5 < 4) → ((I 178 (0 + x4).toNat ≠ (-1)) ∧ (((0 ≤ x5) ∧ (x5 ≤ 3)) ∧ (I 178 (0 + x4).toNat ≠ x5))) → (x3 ≠ 1) → (¬(z1 = true)) → -2147483648 ≤ x5 + 1 ∧ x5 + 1 ≤ 2147483647 := by intros; first | assumption | omega | (split <;> omega))
    (v8 : (x5 < 4) → ((I 178 (0 + x4).toNat ≠ (-1)) ∧ (((0 ≤ x5) ∧ (x5 ≤ 3)) ∧ (I 178 (0 + x4).toNat ≠ x5))) → (x3 ≠ 1) → (z1 = true) → (x2 ≠ 0) → -2147483648 ≤ 10 * x4 ∧ 10 * x4 ≤ 2147483647 := by intros; first | assumption | omega | (split <;> omega))
    (v9 : (x5 < 4) → ((I 178 (0 + x4).toNat ≠ (-1)) ∧ (((0 ≤ x5) ∧ (x5 ≤ 3)) ∧ (I 178 (0 + x4).toNat ≠ x5))) → (x3 ≠ 1) → (z1 = true) → (x2 ≠ 0) → -2147483648 ≤ (10 * x4) + x5 ∧ (10 * x4) + x5 ≤ 2147483647 := by intros; first | assumption | omega | (split <;> omega))
    (v10 : (x5 < 4) → ((I 178 (0 + x4).toNat ≠ (-1)) ∧ (((0 ≤ x5) ∧ (x5 ≤ 3)) ∧ (I 178 (0 + x4).toNat ≠ x5))) → (x3 = 1) → 0 ≤ x1 ∧ x1 < 12 := by intros; first | assumption | omega | (split <;> omega))
    (v11 : (x5 < 4) → ((I 178 (0 + x4).toNat ≠ (-1)) ∧ (((0 ≤ x5) ∧ (x5 ≤ 3)) ∧ (I 178 (0 + x4).toNat ≠ x5))) → (x3 = 1) → 0 ≤ I 161 (10 * x1).toNat ∧ I 161 (10 * x1).toNat ≤ 9 := by intros; first | assumption | omega | (split <;> omega))
    (v12 : (x5 < 4) → ((I 178 (0 + x4).toNat ≠ (-1)) ∧ (((0 ≤ x5) ∧ (x5 ≤ 3)) ∧ (I 178 (0 + x4).toNat ≠ x5))) → (x3 = 1) → ∀ k : Nat, (k : Int) < I 161 (10 * x1).toNat → 0 ≤ I 161 (((10 * x1) + 1) + (k : Int)).toNat ∧ I 161 (((10 * x1) + 1) + (k : Int)).toNat < 12 := by intros; first | assumption | omega | (split <;> omega))
    (v13 : (x5 < 4) → ((I 178 (0 + x4).toNat ≠ (-1)) ∧ (((0 ≤ x5) ∧ (x5 ≤ 3)) ∧ (I 178 (0 + x4).toNat ≠ x5))) → (x3 = 1) → ((frF (swI (trI I) 18 x4 x5) 18 x1 (I 161 (10 * x1).toNat).toNat) = 0) → -2147483648 ≤ x5 + 1 ∧ x5 + 1 ≤ 2147483647 := by intros; first | assumption | omega | (split <;> omega))
    (v14 : (x5 < 4) → ((I 178 (0 + x4).toNat ≠ (-1)) ∧ (((0 ≤ x5) ∧ (x5 ≤ 3)) ∧ (I 178 (0 + x4).toNat ≠ x5))) → (x3 = 1) → ((frF (swI (trI I) 18 x4 x5) 18 x1 (I 161 (10 * x1).toNat).toNat) ≠ 0) → (x2 ≠ 0) → -2147483648 ≤ 10 * x4 ∧ 10 * x4 ≤ 2147483647 := by intros; first | assumption | omega | (split <;> omega))
    (v15 : (x5 < 4) → ((I 178 (0 + x4).toNat ≠ (-1)) ∧ (((0 ≤ x5) ∧ (x5 ≤ 3)) ∧ (I 178 (0 + x4).toNat ≠ x5))) → (x3 = 1) → ((frF (swI (trI I) 18 x4 x5) 18 x1 (I 161 (10 * x1).toNat).toNat) ≠ 0) → (x2 ≠ 0) → -2147483648 ≤ (10 * x4) + x5 ∧ (10 * x4) + x5 ≤ 2147483647 := by intros; first | assumption | omega | (split <;> omega))
    (v16 : (x5 < 4) → (¬((I 178 (0 + x4).toNat ≠ (-1)) ∧ (((0 ≤ x5) ∧ (x5 ≤ 3)) ∧ (I 178 (0 + x4).toNat ≠ x5)))) → -2147483648 ≤ x5 + 1 ∧ x5 + 1 ≤ 2147483647 := by intros; first | assumption | omega | (split <;> omega)) : L_X12_free_77 d 156 x1 x2 x3 x4 x5 I S v h1 :=
  
  b_X12_free_77  (fun (c1 : 4 ≤ x5) => 
    b_X12_free_162 (v1 c1) ((k1 c1))) (fun (c2 : x5 < 4) => 
    b_X12_free_83  (c_X12_canSwap hl0 (v2 c2) (v3 c2)) (
    b_X12_free_92  (fun c3' => have c3 : (I 178 (0 + x4).toNat ≠ (-1)) ∧ (((0 ≤ x5) ∧ (x5 ≤ 3)) ∧ (I 178 (0 + x4).toNat ≠ x5)) := b2t c3'; 
      b_X12_free_98  (c_X12_tries hl0) (
      b_X12_free_102  (c_X12_swaps hl0 (by first | decide | exact (show (18 : Int) = 0 ∨ (18 : Int) = 18 from by decide)) (v4 c2 c3) (v5 c2 c3) (v6 c2 c3)) (
      b_X12_free_112  (fun (c5 : x3 ≠ 1) => 
        b_X12_free_131  (g1 c2 c3 c5) (
        b_X12_free_136  (fun c7' => have c7 : ¬(z1 = true) := b2f c7'; 
          b_X12_free_156 (v7 c2 c3 c5 c7) ((k2 c2 c3 c5 c7))) (fun c8' => have c8 : z1 = true := b2t c8'; 
          have K10 : ∀ us0 : Int, us0 = (if x2 ≠ 0 then ((10 * x4) + x5 : Int) else x3) → Ev (d + 4) mX12_free (155, [some (vR (some (22, 0, 156))), some (vI x1), some (vI x2), some (vI x3), some (vI x4), some (vI x5)], [vI us0], (J1, S)) (.inl (some (vI v)), h1) := fun us0 e_us0 => by subst e_us0; exact (ev_ret2 (r1 c2 c3 c5 c8) (e1 c2 c3 c5 c8) (b_X12_free_155 ))
          
          b_X12_free_139  (fun (c9 : x2 ≠ 0) => 
            b_X12_free_147 (v8 c2 c3 c5 c8 c9) (v9 c2 c3 c5 c8 c9) (K10 ((10 * x4) + x5) ((if_pos c9).symm))) (fun (c10 : x2 = 0) => 
            b_X12_free_143  (K10 x3 ((if_neg (fun q => q c10)).symm)))))) (fun (c6 : x3 = 1) => 
        b_X12_free_118  (c_X12_freeFor hl0 (by first | decide | exact (show (18 : Int) = 0 ∨ (18 : Int) = 18 from by decide)) (v10 c2 c3 c6) (v11 c2 c3 c6) (v12 c2 c3 c6)) (
        b_X12_free_125  (fun (c12 : (frF (swI (trI I) 18 x4 x5) 18 x1 (I 161 (10 * x1).toNat).toNat) = 0) => 
          b_X12_free_156 (v13 c2 c3 c6 c12) ((k3 c2 c3 c6 c12))) (fun (c13 : (frF (swI (trI I) 18 x4 x5) 18 x1 (I 161 (10 * x1).toNat).toNat) ≠ 0) => 
          b_X12_free_128  (
          have K15 : ∀ us0 : Int, us0 = (if x2 ≠ 0 then ((10 * x4) + x5 : Int) else x3) → Ev (d + 4) mX12_free (155, [some (vR (some (22, 0, 156))), some (vI x1), some (vI x2), some (vI x3), some (vI x4), some (vI x5)], [vI us0], ((swI (trI I) 18 x4 x5), S)) (.inl (some (vI v)), h1) := fun us0 e_us0 => by subst e_us0; exact (ev_ret2 (r2 c2 c3 c6 c13) (e2 c2 c3 c6 c13) (b_X12_free_155 ))
          
          b_X12_free_139  (fun (c14 : x2 ≠ 0) => 
            b_X12_free_147 (v14 c2 c3 c6 c13 c14) (v15 c2 c3 c6 c13 c14) (K15 ((10 * x4) + x5) ((if_pos c14).symm))) (fun (c15 : x2 = 0) => 
            b_X12_free_143  (K15 x3 ((if_neg (fun q => q c15)).symm)))))))))) (fun c4' => have c4 : ¬((I 178 (0 + x4).toNat ≠ (-1)) ∧ (((0 ≤ x5) ∧ (x5 ≤ 3)) ∧ (I 178 (0 + x4).toNat ≠ x5))) := b2f c4'; 
      b_X12_free_95  (
      b_X12_free_156 (v16 c2 c4) ((k4 c2 c4))))))
abbrev L_X12_play_51 (d : Nat) (a0 : Nat) (x1 : Int) (x2 : Int) (I : Nat → Nat → Int) (S : PS) (v : Int) (h1 : PM) : Prop := Ev (d + 5) mX12_play (51, [some (vR (some (22, 0, a0))), some (vI x1), some (vI x2), none], [], (I, S)) (.inl (some (vI v)), h1)
abbrev L_X12_play_71 (d : Nat) (a0 : Nat) (x1 : Int) (x2 : Int) (x3 : Int) (I : Nat → Nat → Int) (S : PS) (v : Int) (h1 : PM) : Prop := Ev (d + 5) mX12_play (71, [some (vR (some (22, 0, a0))), some (vI x1), some (vI x2), some (vI x3)], [], (I, S)) (.inl (some (vI v)), h1)
theorem w_X12_play_0 {d : Nat} {I : Nat → Nat → Int} {S : PS} {x1 : Int} {J1 : Nat → Nat → Int} {v : Int} {h1 : PM} (hl0 : LyX12 S)
    (g1 : ((((0 ≤ x1) ∧ (x1 ≤ 1)))) → ((loI (up2 I 156 0 0)) 156 44 ≤ 4) → Ca (d + 4) mX12_laysGame [vR (some (22, 0, 156))] ((loI (up2 I 156 0 0)), S) (.inl none) (J1, S))
    (k1 : ((((0 ≤ x1) ∧ (x1 ≤ 1)))) → ((loI (up2 I 156 0 0)) 156 44 ≤ 4) → (x1 ≠ 0) → L_X12_play_51 d 156 x1 0 (trI J1) S v h1)
    (r1 : ((((0 ≤ x1) ∧ (x1 ≤ 1)))) → ((loI (up2 I 156 0 0)) 156 44 ≤ 4) → (x1 = 0) → J1 183 0 = v)
    (e1 : ((((0 ≤ x1) ∧ (x1 ≤ 1)))) → ((loI (up2 I 156 0 0)) 156 44 ≤ 4) → (x1 = 0) → (J1, S) = h1 := by intros; first | rfl | (exfalso; omega) | contradiction | (exfalso; simp_all; done))
    (r2 : ((((0 ≤ x1) ∧ (x1 ≤ 1)))) → (4 < (loI (up2 I 156 0 0)) 156 44) → (-1) = v)
    (e2 : ((((0 ≤ x1) ∧ (x1 ≤ 1)))) → (4 < (loI (up2 I 156 0 0)) 156 44) → ((loI (up2 I 156 0 0)), S) = h1 := by intros; first | rfl | (exfalso; omega) | contradiction | (exfalso; simp_all; done))
    (r3 : (¬(((0 ≤ x1) ∧ (x1 ≤ 1)))) → 0 = v)
    (e3 : (¬(((0 ≤ x1) ∧ (x1 ≤ 1)))) → ((up2 (up2 I 156 0 0) 156 0 1), S) = h1 := by intros; first | rfl | (exfalso; omega) | contradiction | (exfalso; simp_all; done))
    (v1 : ((((0 ≤ x1) ∧ (x1 ≤ 1)))) → 0 ≤ (I 156 15) ∧ (I 156 15) ≤ 12 := by intros; first | assumption | omega | (split <;> omega)) : Ca (d + 5) mX12_play [vR (some (22, 0, 156)), vI x1] (I, S) (.inl (some (vI v))) h1 :=
  Ca.of rfl rfl (
  (Classical.em ((((0 ≤ x1) ∧ (x1 ≤ 1))))).elim (fun c1 => 
    b_X12_play_0  (c_X12_isWhat_y hl0 (by first | decide | exact (show 0 = 0 from by decide)) c1) (
    b_X12_play_11  (fun _ => 
      b_X12_play_16  (c_X12_laysOpen hl0 (v1 c1)) (
      b_X12_play_20  (fun (c3 : (loI (up2 I 156 0 0)) 156 44 ≤ 4) => 
        b_X12_play_30  (g1 c1 c3) (
        b_X12_play_34  (fun (c5 : x1 ≠ 0) => 
          b_X12_play_45  (c_X12_tries hl0) (
          b_X12_play_49  ((k1 c1 c3 c5)))) (fun (c6 : x1 = 0) => ev_ret2 (r1 c1 c3 c6) (e1 c1 c3 c6) (b_X12_play_38 (ly_X12_46 hl0) (by decide))))) (fun (c4 : 4 < (loI (up2 I 156 0 0)) 156 44) => ev_ret2 (r2 c1 c4) (e2 c1 c4) (b_X12_play_28 )))) (fun c => absurd c (by decide)))) (fun c2 => 
    b_X12_play_0  (c_X12_isWhat_n hl0 (by first | decide | exact (show 0 = 0 from by decide)) c2) (
    b_X12_play_11  (fun c => absurd c (by decide)) (fun _ => ev_ret2 (r3 c2) (e3 c2) (b_X12_play_14 )))))
theorem w_X12_play_51 {d : Nat} {I : Nat → Nat → Int} {S : PS} {x1 x2 : Int} {v : Int} {h1 : PM} (hl0 : LyX12 S)
    (k1 : (x2 < I 156 44) → (I 183 0 = 1) → L_X12_play_71 d 156 x1 x2 0 I S v h1)
    (r1 : (I 156 44 ≤ x2) → (-1) = v)
    (e1 : (I 156 44 ≤ x2) → (I, S) = h1 := by intros; first | rfl | (exfalso; omega) | contradiction | (exfalso; simp_all; done))
    (r2 : (x2 < I 156 44) → (I 183 0 ≠ 1) → (-1) = v)
    (e2 : (x2 < I 156 44) → (I 183 0 ≠ 1) → (I, S) = h1 := by intros; first | rfl | (exfalso; omega) | contradiction | (exfalso; simp_all; done)) : L_X12_play_51 d 156 x1 x2 I S v h1 :=
  
  b_X12_play_51  (fun (c1 : I 156 44 ≤ x2) => ev_ret2 (r1 c1) (e1 c1) (b_X12_play_134 )) (fun (c2 : x2 < I 156 44) => 
    b_X12_play_59 (ly_X12_46 hl0) (by decide) (fun (c3 : I 183 0 ≠ 1) => ev_ret2 (r2 c2 c3) (e2 c2 c3) (b_X12_play_134 )) (fun (c4 : I 183 0 = 1) => 
      b_X12_play_69  ((k1 c2 c4))))
theorem w_X12_play_71 {d : Nat} {I : Nat → Nat → Int} {S : PS} {x1 x2 x3 : Int} {v : Int} {h1 : PM} (hl0 : LyX12 S)
    (k1 : (4 ≤ x3) → L_X12_play_51 d 156 x1 (x2 + 1) I S v h1)
    (k2 : (x3 < 4) → (¬((I 178 (18 + (I 180 x2.toNat)).toNat = (-1)) ∧ (((0 ≤ x3) ∧ (x3 ≤ 3)) ∧ (p_and (p_shr (frF I 18 (I 180 x2.toNat) (I 161 (10 * (I 180 x2.toNat)).toNat).toNat) x3) 1 = 1)))) → L_X12_play_71 d 156 x1 x2 (x3 + 1) I S v h1)
    (k3 : (x3 < 4) → ((I 178 (18 + (I 180 x2.toNat)).toNat = (-1)) ∧ (((0 ≤ x3) ∧ (x3 ≤ 3)) ∧ (p_and (p_shr (frF I 18 (I 180 x2.toNat) (I 161 (10 * (I 180 x2.toNat)).toNat).toNat) x3) 1 = 1))) → (I 183 ((x3 + 1) * (pwI 5 x2.toNat)).toNat ≠ 1) → L_X12_play_71 d 156 x1 x2 (x3 + 1) I S v h1)
    (r1 : (x3 < 4) → ((I 178 (18 + (I 180 x2.toNat)).toNat = (-1)) ∧ (((0 ≤ x3) ∧ (x3 ≤ 3)) ∧ (p_and (p_shr (frF I 18 (I 180 x2.toNat) (I 161 (10 * (I 180 x2.toNat)).toNat).toNat) x3) 1 = 1))) → (I 183 ((x3 + 1) * (pwI 5 x2.toNat)).toNat = 1) → (10 * (I 180 x2.toNat)) + x3 = v)
    (e1 : (x3 < 4) → ((I 178 (18 + (I 180 x2.toNat)).toNat = (-1)) ∧ (((0 ≤ x3) ∧ (x3 ≤ 3)) ∧ (p_and (p_shr (frF I 18 (I 180 x2.toNat) (I 161 (10 * (I 180 x2.toNat)).toNat).toNat) x3) 1 = 1))) → (I 183 ((x3 + 1) * (pwI 5 x2.toNat)).toNat = 1) → (I, S) = h1 := by intros; first | rfl | (exfalso; omega) | contradiction | (exfalso; simp_all; done))
    (v1 : (4 ≤ x3) → -2147483648 ≤ x2 + 1 ∧ x2 + 1 ≤ 2147483647 := by intros; first | assumption | omega | (split <;> omega))
    (v2 : (x3 < 4) → 0 ≤ x2 ∧ x2 < (12 : Nat) := by intros; first | assumption | omega | (split <;> omega))
    (v3 : (x3 < 4) → -2147483648 ≤ (18 : Int) + (I 180 x2.toNat) ∧ (18 : Int) + (I 180 x2.toNat) ≤ 2147483647 := by intros; first | assumption | omega | (split <;> omega))
    (v4 : (x3 < 4) → 0 ≤ (18 : Int) + (I 180 x2.toNat) ∧ (18 : Int) + (I 180 x2.toNat) < (36 : Nat) := by intros; first | assumption | omega | (split <;> omega))
    (v5 : (x3 < 4) → (I 178 ((18 : Int) + (I 180 x2.toNat)).toNat = (-1)) → ((0 ≤ x3) ∧ (x3 ≤ 3)) → (18 : Int) = 0 ∨ (18 : Int) = 18 := by intros; first | assumption | omega | (split <;> omega))
    (v6 : (x3 < 4) → (I 178 ((18 : Int) + (I 180 x2.toNat)).toNat = (-1)) → ((0 ≤ x3) ∧ (x3 ≤ 3)) → 0 ≤ (I 180 x2.toNat) ∧ (I 180 x2.toNat) < 12 := by intros; first | assumption | omega | (split <;> omega))
    (v7 : (x3 < 4) → (I 178 ((18 : Int) + (I 180 x2.toNat)).toNat = (-1)) → ((0 ≤ x3) ∧ (x3 ≤ 3)) → 0 ≤ I 161 (10 * (I 180 x2.toNat)).toNat ∧ I 161 (10 * (I 180 x2.toNat)).toNat ≤ 9 := by intros; first | assumption | omega | (split <;> omega))
    (v8 : (x3 < 4) → (I 178 ((18 : Int) + (I 180 x2.toNat)).toNat = (-1)) → ((0 ≤ x3) ∧ (x3 ≤ 3)) → ∀ k : Nat, (k : Int) < I 161 (10 * (I 180 x2.toNat)).toNat → 0 ≤ I 161 (((10 * (I 180 x2.toNat)) + 1) + (k : Int)).toNat ∧ I 161 (((10 * (I 180 x2.toNat)) + 1) + (k : Int)).toNat < 12 := by intros; first | assumption | omega | (split <;> omega))
    (v9 : (x3 < 4) → (¬((I 178 (18 + (I 180 x2.toNat)).toNat = (-1)) ∧ (((0 ≤ x3) ∧ (x3 ≤ 3)) ∧ (p_and (p_shr (frF I 18 (I 180 x2.toNat) (I 161 (10 * (I 180 x2.toNat)).toNat).toNat) x3) 1 = 1)))) → -2147483648 ≤ x3 + 1 ∧ x3 + 1 ≤ 2147483647 := by intros; first | assumption | omega | (split <;> omega))
    (v10 : (x3 < 4) → ((I 178 (18 + (I 180 x2.toNat)).toNat = (-1)) ∧ (((0 ≤ x3) ∧ (x3 ≤ 3)) ∧ (p_and (p_shr (frF I 18 (I 180 x2.toNat) (I 161 (10 * (I 180 x2.toNat)).toNat).toNat) x3) 1 = 1))) → -2147483648 ≤ x3 + 1 ∧ x3 + 1 ≤ 2147483647 := by intros; first | assumption | omega | (split <;> omega))
    (v11 : (x3 < 4) → ((I 178 (18 + (I 180 x2.toNat)).toNat = (-1)) ∧ (((0 ≤ x3) ∧ (x3 ≤ 3)) ∧ (p_and (p_shr (frF I 18 (I 180 x2.toNat) (I 161 (10 * (I 180 x2.toNat)).toNat).toNat) x3) 1 = 1))) → 0 ≤ x2 ∧ x2 ≤ 4 := by intros; first | assumption | omega | (split <;> omega))
    (v12 : (x3 < 4) → ((I 178 (18 + (I 180 x2.toNat)).toNat = (-1)) ∧ (((0 ≤ x3) ∧ (x3 ≤ 3)) ∧ (p_and (p_shr (frF I 18 (I 180 x2.toNat) (I 161 (10 * (I 180 x2.toNat)).toNat).toNat) x3) 1 = 1))) → -2147483648 ≤ (x3 + 1) * (pwI 5 x2.toNat) ∧ (x3 + 1) * (pwI 5 x2.toNat) ≤ 2147483647 := by intros; first | assumption | omega | (split <;> omega))
    (v13 : (x3 < 4) → ((I 178 (18 + (I 180 x2.toNat)).toNat = (-1)) ∧ (((0 ≤ x3) ∧ (x3 ≤ 3)) ∧ (p_and (p_shr (frF I 18 (I 180 x2.toNat) (I 161 (10 * (I 180 x2.toNat)).toNat).toNat) x3) 1 = 1))) → 0 ≤ (x3 + 1) * (pwI 5 x2.toNat) ∧ (x3 + 1) * (pwI 5 x2.toNat) < (625 : Nat) := by intros; first | assumption | omega | (split <;> omega))
    (v14 : (x3 < 4) → ((I 178 (18 + (I 180 x2.toNat)).toNat = (-1)) ∧ (((0 ≤ x3) ∧ (x3 ≤ 3)) ∧ (p_and (p_shr (frF I 18 (I 180 x2.toNat) (I 161 (10 * (I 180 x2.toNat)).toNat).toNat) x3) 1 = 1))) → (I 183 ((x3 + 1) * (pwI 5 x2.toNat)).toNat = 1) → -2147483648 ≤ 10 * (I 180 x2.toNat) ∧ 10 * (I 180 x2.toNat) ≤ 2147483647 := by intros; first | assumption | omega | (split <;> omega))
    (v15 : (x3 < 4) → ((I 178 (18 + (I 180 x2.toNat)).toNat = (-1)) ∧ (((0 ≤ x3) ∧ (x3 ≤ 3)) ∧ (p_and (p_shr (frF I 18 (I 180 x2.toNat) (I 161 (10 * (I 180 x2.toNat)).toNat).toNat) x3) 1 = 1))) → (I 183 ((x3 + 1) * (pwI 5 x2.toNat)).toNat = 1) → -2147483648 ≤ (10 * (I 180 x2.toNat)) + x3 ∧ (10 * (I 180 x2.toNat)) + x3 ≤ 2147483647 := by intros; first | assumption | omega | (split <;> omega)) : L_X12_play_71 d 156 x1 x2 x3 I S v h1 :=
  
  b_X12_play_71  (fun (c1 : 4 ≤ x3) => 
    b_X12_play_128 (v1 c1) ((k1 c1))) (fun (c2 : x3 < 4) => 
    b_X12_play_76 (ly_X12_42 hl0) (v2 c2) (c_X12_canPaint hl0 (v3 c2) (v4 c2) (v5 c2) (v6 c2) (v7 c2) (v8 c2)) (
    b_X12_play_89  (fun c3' => have c3 : ¬((I 178 (18 + (I 180 x2.toNat)).toNat = (-1)) ∧ (((0 ≤ x3) ∧ (x3 ≤ 3)) ∧ (p_and (p_shr (frF I 18 (I 180 x2.toNat) (I 161 (10 * (I 180 x2.toNat)).toNat).toNat) x3) 1 = 1))) := b2f c3'; 
      b_X12_play_122 (v9 c2 c3) ((k2 c2 c3))) (fun c4' => have c4 : (I 178 (18 + (I 180 x2.toNat)).toNat = (-1)) ∧ (((0 ≤ x3) ∧ (x3 ≤ 3)) ∧ (p_and (p_shr (frF I 18 (I 180 x2.toNat) (I 161 (10 * (I 180 x2.toNat)).toNat).toNat) x3) 1 = 1)) := b2t c4'; 
      b_X12_play_92 (ly_X12_46 hl0) (v10 c2 c4) (c_X12_step5 hl0 (v11 c2 c4)) (
      b_X12_play_104 (v12 c2 c4) (v13 c2 c4) (fun (c5 : I 183 ((x3 + 1) * (pwI 5 x2.toNat)).toNat ≠ 1) => 
        b_X12_play_122 (v10 c2 c4) ((k3 c2 c4 c5))) (fun (c6 : I 183 ((x3 + 1) * (pwI 5 x2.toNat)).toNat = 1) => ev_ret2 (r1 c2 c4 c6) (e1 c2 c4 c6) (b_X12_play_110 (ly_X12_42 hl0) (v2 c2) (v14 c2 c4 c6) (v15 c2 c4 c6)))))))
theorem c_X12_solve {d : Nat} {I : Nat → Nat → Int} {S : PS} {x1 z1 : Int} {J1 : Nat → Nat → Int} (hl0 : LyX12 S)
    (v1 : ((((0 ≤ x1) ∧ (x1 < I 156 15)))) → (z1 ≠ 0) → -2147483648 ≤ 18 + x1 ∧ 18 + x1 ≤ 2147483647)
    (v2 : ((((0 ≤ x1) ∧ (x1 < I 156 15)))) → (z1 ≠ 0) → 0 ≤ 18 + x1 ∧ 18 + x1 < (36 : Nat))
    (g1 : ((((0 ≤ x1) ∧ (x1 < I 156 15)))) → Ca (d + 3) mX12_solves [vR (some (22, 0, 156)), vI 1] ((up2 I 156 0 0), S) (.inl (some (vI z1))) (J1, S)) : Ca (d + 4) mX12_solve [vR (some (22, 0, 156)), vI x1] (I, S) (.inl (some (vI (if (((0 ≤ x1) ∧ (x1 < I 156 15))) then ((if z1 ≠ 0 then (J1 178 (18 + x1).toNat : Int) else (-1)) : Int) else 0)))) ((if (((0 ≤ x1) ∧ (x1 < I 156 15))) then J1 else (up2 (up2 I 156 0 0) 156 0 1)), S) :=
  Ca.of rfl rfl (
  (Classical.em ((((0 ≤ x1) ∧ (x1 < I 156 15))))).elim (fun c1 => 
    b_X12_solve_0  (c_X12_isSpot_y hl0 (by first | decide | exact (show 0 = 0 from by decide)) c1) (
    b_X12_solve_10  (fun _ => 
      b_X12_solve_15  (g1 c1) (
      have K4 : ∀ us0 : Int, us0 = (if z1 ≠ 0 then (J1 178 (18 + x1).toNat : Int) else (-1)) → Ev (d + 4) mX12_solve (36, [some (vR (some (22, 0, 156))), some (vI x1)], [vI us0], (J1, S)) ((.inl (some (vI (if (((0 ≤ x1) ∧ (x1 < I 156 15))) then ((if z1 ≠ 0 then (J1 178 (18 + x1).toNat : Int) else (-1)) : Int) else 0)))), ((if (((0 ≤ x1) ∧ (x1 < I 156 15))) then J1 else (up2 (up2 I 156 0 0) 156 0 1)), S)) := fun us0 e_us0 => by subst e_us0; exact (ev_ret2 ((if_pos c1).symm) (prEq ((if_pos c1).symm) rfl) (b_X12_solve_36 ))
      
      b_X12_solve_20  (fun (c3 : z1 ≠ 0) => 
        b_X12_solve_27 (ly_X12_39 hl0) (v1 c1 c3) (v2 c1 c3) (K4 (J1 178 (18 + x1).toNat) ((if_pos c3).symm))) (fun (c4 : z1 = 0) => 
        b_X12_solve_23  (K4 (-1) ((if_neg (fun q => q c4)).symm))))) (fun c => absurd c (by decide)))) (fun c2 => 
    b_X12_solve_0  (c_X12_isSpot_n hl0 (by first | decide | exact (show 0 = 0 from by decide)) c2) (
    b_X12_solve_10  (fun c => absurd c (by decide)) (fun _ => ev_ret2 ((if_neg (fun q => c2 q)).symm) (prEq ((if_neg (fun q => c2 q)).symm) rfl) (b_X12_solve_13 )))))
theorem c_X12_ways {d : Nat} {I : Nat → Nat → Int} {S : PS} {J1 : Nat → Nat → Int} {z1 : Int} (hl0 : LyX12 S)
    (g1 : Ca (d + 3) mX12_solves [vR (some (22, 0, 156)), vI 0] ((up2 I 156 0 0), S) (.inl (some (vI z1))) (J1, S)) : Ca (d + 4) mX12_ways [vR (some (22, 0, 156))] (I, S) (.inl (some (vI z1))) (J1, S) :=
  Ca.of rfl rfl (
  b_X12_ways_0  g1 (ev_ret2 rfl rfl (b_X12_ways_10 )))
abbrev L_X8_seekFree_24 (d : Nat) (a0 : Nat) (a1 : Nat) (x2 : Int) (x3 : Int) (I : Nat → Nat → Int) (S : PS) (h1 : PM) : Prop := Ev (d + 2) mX8_seekFree (24, [some (vR (some (18, 0, a0))), some (vR (some (11, 0, a1))), some (vI x2), some (vI x3)], [], (I, S)) (.inl none, h1)
theorem w_X8_seekFree_0 {d : Nat} {I : Nat → Nat → Int} {S : PS} {a1 : Nat} {x2 : Int} {h1 : PM} (hl0 : LyX8 S) (hl1 : LyX0 S a1)
    (k1 : (¬(p_and (p_shr (p_or (p_or (p_or ((up2 (up2 I 144 1 (-1)) 144 3 (-1)) (145 + 1) 0) ((up2 (up2 I 144 1 (-1)) 144 3 (-1)) (145 + 1) 1)) ((up2 (up2 I 144 1 (-1)) 144 3 (-1)) (145 + 1) 2)) ((up2 (up2 I 144 1 (-1)) 144 3 (-1)) (145 + 1) 3)) x2) 1 ≠ 0)) → L_X8_seekFree_24 d 144 a1 x2 0 (up2 (up2 I 144 1 (-1)) 144 3 (-1)) S h1)
    (e1 : (p_and (p_shr (p_or (p_or (p_or ((up2 (up2 I 144 1 (-1)) 144 3 (-1)) (145 + 1) 0) ((up2 (up2 I 144 1 (-1)) 144 3 (-1)) (145 + 1) 1)) ((up2 (up2 I 144 1 (-1)) 144 3 (-1)) (145 + 1) 2)) ((up2 (up2 I 144 1 (-1)) 144 3 (-1)) (145 + 1) 3)) x2) 1 ≠ 0) → ((up2 (up2 I 144 1 (-1)) 144 3 (-1)), S) = h1 := by intros; first | rfl | (exfalso; omega) | contradiction | (exfalso; simp_all; done)) : Ca (d + 2) mX8_seekFree [vR (some (18, 0, 144)), vR (some (11, 0, a1)), vI x2] (I, S) (.inl none) h1 :=
  Ca.of rfl rfl (
  b_X8_seekFree_0 (ly_X8_0 hl0) (c_X2_isPainted (ly_X8_p hl0)) (
  b_X8_seekFree_18  (fun c1' => have c1 : ¬(p_and (p_shr (p_or (p_or (p_or ((up2 (up2 I 144 1 (-1)) 144 3 (-1)) (145 + 1) 0) ((up2 (up2 I 144 1 (-1)) 144 3 (-1)) (145 + 1) 1)) ((up2 (up2 I 144 1 (-1)) 144 3 (-1)) (145 + 1) 2)) ((up2 (up2 I 144 1 (-1)) 144 3 (-1)) (145 + 1) 3)) x2) 1 ≠ 0) := b2f c1'; 
    b_X8_seekFree_22  ((k1 c1))) (fun c2' => have c2 : p_and (p_shr (p_or (p_or (p_or ((up2 (up2 I 144 1 (-1)) 144 3 (-1)) (145 + 1) 0) ((up2 (up2 I 144 1 (-1)) 144 3 (-1)) (145 + 1) 1)) ((up2 (up2 I 144 1 (-1)) 144 3 (-1)) (145 + 1) 2)) ((up2 (up2 I 144 1 (-1)) 144 3 (-1)) (145 + 1) 3)) x2) 1 ≠ 0 := b2t c2'; ev_retV (e1 c2) (b_X8_seekFree_21 ))))
theorem w_X8_seekFree_24 {d : Nat} {I : Nat → Nat → Int} {S : PS} {a1 : Nat} {x2 x3 : Int} {J1 : Nat → Nat → Int} {z1 : Bool} {h1 : PM} (hl0 : LyX8 S) (hl1 : LyX0 S a1)
    (g1 : (x3 ≤ 2) → (I 144 1 = (-1)) → Ca (d + 1) mX8_isFreedBy [vR (some (18, 0, 144)), vR (some (11, 0, a1)), vI x2, vI x3] (I, S) (.inl (some (vI (if z1 = true then (1 : Int) else 0)))) (J1, S))
    (k1 : (x3 ≤ 2) → (I 144 1 = (-1)) → (¬(z1 = true)) → L_X8_seekFree_24 d 144 a1 x2 (x3 + 1) J1 S h1)
    (k2 : (x3 ≤ 2) → (I 144 1 = (-1)) → (z1 = true) → L_X8_seekFree_24 d 144 a1 x2 (x3 + 1) (up2 J1 144 1 x3) S h1)
    (e1 : (2 < x3) → (I, S) = h1 := by intros; first | rfl | (exfalso; omega) | contradiction | (exfalso; simp_all; done))
    (e2 : (x3 ≤ 2) → (I 144 1 ≠ (-1)) → (I, S) = h1 := by intros; first | rfl | (exfalso; omega) | contradiction | (exfalso; simp_all; done))
    (v1 : (x3 ≤ 2) → (I 144 1 = (-1)) → (¬(z1 = true)) → -2147483648 ≤ x3 + 1 ∧ x3 + 1 ≤ 2147483647 := by intros; first | assumption | omega | (split <;> omega))
    (v2 : (x3 ≤ 2) → (I 144 1 = (-1)) → (z1 = true) → -2147483648 ≤ x3 + 1 ∧ x3 + 1 ≤ 2147483647 := by intros; first | assumption | omega | (split <;> omega)) : L_X8_seekFree_24 d 144 a1 x2 x3 I S h1 :=
  
  b_X8_seekFree_24  (fun (c1 : 2 < x3) => ev_retV (e1 c1) (b_X8_seekFree_58 )) (fun (c2 : x3 ≤ 2) => 
    b_X8_seekFree_29  (fun (c3 : I 144 1 ≠ (-1)) => ev_retV (e2 c2 c3) (b_X8_seekFree_58 )) (fun (c4 : I 144 1 = (-1)) => 
      b_X8_seekFree_37  (g1 c2 c4) (
      b_X8_seekFree_44  (fun c5' => have c5 : ¬(z1 = true) := b2f c5'; 
        b_X8_seekFree_52 (v1 c2 c4 c5) ((k1 c2 c4 c5))) (fun c6' => have c6 : z1 = true := b2t c6'; 
        b_X8_seekFree_47  (
        b_X8_seekFree_52 (v2 c2 c4 c6) ((k2 c2 c4 c6)))))))
theorem c_X8_playGame {d : Nat} {I : Nat → Nat → Int} {S : PS} {a1 : Nat} {J1 : Nat → Nat → Int} {z1 : Bool} (hl0 : LyX8 S) (hl1 : LyX0 S a1)
    (v1 : -2147483648 ≤ ((up2 (up2 I 144 2 (-1)) 144 3 (-1)) a1 6) - (bcn (p_or (p_or (p_or ((up2 (up2 I 144 2 (-1)) 144 3 (-1)) (145 + 1) 0) ((up2 (up2 I 144 2 (-1)) 144 3 (-1)) (145 + 1) 1)) ((up2 (up2 I 144 2 (-1)) 144 3 (-1)) (145 + 1) 2)) ((up2 (up2 I 144 2 (-1)) 144 3 (-1)) (145 + 1) 3)) 32) ∧ ((up2 (up2 I 144 2 (-1)) 144 3 (-1)) a1 6) - (bcn (p_or (p_or (p_or ((up2 (up2 I 144 2 (-1)) 144 3 (-1)) (145 + 1) 0) ((up2 (up2 I 144 2 (-1)) 144 3 (-1)) (145 + 1) 1)) ((up2 (up2 I 144 2 (-1)) 144 3 (-1)) (145 + 1) 2)) ((up2 (up2 I 144 2 (-1)) 144 3 (-1)) (145 + 1) 3)) 32) ≤ 2147483647)
    (g1 : (((up2 (up2 I 144 2 (-1)) 144 3 (-1)) a1 6) - (bcn (p_or (p_or (p_or ((up2 (up2 I 144 2 (-1)) 144 3 (-1)) (145 + 1) 0) ((up2 (up2 I 144 2 (-1)) 144 3 (-1)) (145 + 1) 1)) ((up2 (up2 I 144 2 (-1)) 144 3 (-1)) (145 + 1) 2)) ((up2 (up2 I 144 2 (-1)) 144 3 (-1)) (145 + 1) 3)) 32) ≤ 4) → Ca (d + 1) mX8_isWonByFirst [vR (some (18, 0, 144)), vR (some (11, 0, a1)), vI 0, vI (((up2 (up2 I 144 2 (-1)) 144 3 (-1)) a1 6) - (bcn (p_or (p_or (p_or ((up2 (up2 I 144 2 (-1)) 144 3 (-1)) (145 + 1) 0) ((up2 (up2 I 144 2 (-1)) 144 3 (-1)) (145 + 1) 1)) ((up2 (up2 I 144 2 (-1)) 144 3 (-1)) (145 + 1) 2)) ((up2 (up2 I 144 2 (-1)) 144 3 (-1)) (145 + 1) 3)) 32))] ((up2 (up2 I 144 2 (-1)) 144 3 (-1)), S) (.inl (some (vI (if z1 = true then (1 : Int) else 0)))) (J1, S)) : Ca (d + 2) mX8_playGame [vR (some (18, 0, 144)), vR (some (11, 0, a1))] (I, S) (.inl none) ((if 4 < ((up2 (up2 I 144 2 (-1)) 144 3 (-1)) a1 6) - (bcn (p_or (p_or (p_or ((up2 (up2 I 144 2 (-1)) 144 3 (-1)) (145 + 1) 0) ((up2 (up2 I 144 2 (-1)) 144 3 (-1)) (145 + 1) 1)) ((up2 (up2 I 144 2 (-1)) 144 3 (-1)) (145 + 1) 2)) ((up2 (up2 I 144 2 (-1)) 144 3 (-1)) (145 + 1) 3)) 32) then (up2 (up2 I 144 2 (-1)) 144 3 (-1)) else (up2 J1 144 2 (if ¬(z1 = true) then (2 : Int) else 1))), S) :=
  Ca.of rfl rfl (
  b_X8_playGame_0 (ly_X8_0 hl0) (c_X2_paintedCount (ly_X8_p hl0)) (
  b_X8_playGame_21 v1 (fun (c1 : 4 < ((up2 (up2 I 144 2 (-1)) 144 3 (-1)) a1 6) - (bcn (p_or (p_or (p_or ((up2 (up2 I 144 2 (-1)) 144 3 (-1)) (145 + 1) 0) ((up2 (up2 I 144 2 (-1)) 144 3 (-1)) (145 + 1) 1)) ((up2 (up2 I 144 2 (-1)) 144 3 (-1)) (145 + 1) 2)) ((up2 (up2 I 144 2 (-1)) 144 3 (-1)) (145 + 1) 3)) 32)) => ev_retV (prEq ((if_pos c1).symm) rfl) (b_X8_playGame_47 )) (fun (c2 : ((up2 (up2 I 144 2 (-1)) 144 3 (-1)) a1 6) - (bcn (p_or (p_or (p_or ((up2 (up2 I 144 2 (-1)) 144 3 (-1)) (145 + 1) 0) ((up2 (up2 I 144 2 (-1)) 144 3 (-1)) (145 + 1) 1)) ((up2 (up2 I 144 2 (-1)) 144 3 (-1)) (145 + 1) 2)) ((up2 (up2 I 144 2 (-1)) 144 3 (-1)) (145 + 1) 3)) 32) ≤ 4) => 
    b_X8_playGame_28  (g1 c2) (
    have K4 : ∀ us1 : Int, us1 = (if ¬(z1 = true) then (2 : Int) else 1) → Ev (d + 2) mX8_playGame (44, [some (vR (some (18, 0, 144))), some (vR (some (11, 0, a1))), some (vI (((up2 (up2 I 144 2 (-1)) 144 3 (-1)) a1 6) - (bcn (p_or (p_or (p_or ((up2 (up2 I 144 2 (-1)) 144 3 (-1)) (145 + 1) 0) ((up2 (up2 I 144 2 (-1)) 144 3 (-1)) (145 + 1) 1)) ((up2 (up2 I 144 2 (-1)) 144 3 (-1)) (145 + 1) 2)) ((up2 (up2 I 144 2 (-1)) 144 3 (-1)) (145 + 1) 3)) 32)))], [vI us1, vR (some (18, 0, 144))], (J1, S)) ((.inl none), ((if 4 < ((up2 (up2 I 144 2 (-1)) 144 3 (-1)) a1 6) - (bcn (p_or (p_or (p_or ((up2 (up2 I 144 2 (-1)) 144 3 (-1)) (145 + 1) 0) ((up2 (up2 I 144 2 (-1)) 144 3 (-1)) (145 + 1) 1)) ((up2 (up2 I 144 2 (-1)) 144 3 (-1)) (145 + 1) 2)) ((up2 (up2 I 144 2 (-1)) 144 3 (-1)) (145 + 1) 3)) 32) then (up2 (up2 I 144 2 (-1)) 144 3 (-1)) else (up2 J1 144 2 (if ¬(z1 = true) then (2 : Int) else 1))), S)) := fun us1 e_us1 => by subst e_us1; exact (
      b_X8_playGame_44  (ev_retV (prEq ((if_neg (Int.not_lt.mpr c2)).symm) rfl) (b_X8_playGame_47 )))
    
    b_X8_playGame_36  (fun c3' => have c3 : ¬(z1 = true) := b2f c3'; 
      b_X8_playGame_43  (K4 2 ((if_pos c3).symm))) (fun c4' => have c4 : z1 = true := b2t c4'; 
      b_X8_playGame_39  (K4 1 ((if_neg (fun q => q c4)).symm)))))))
theorem c_X8_paintAll {d : Nat} {I : Nat → Nat → Int} {S : PS} {a1 : Nat} {J1 : Nat → Nat → Int} {z1 : Bool} (hl0 : LyX8 S) (hl1 : LyX0 S a1)
    (g1 : Ca d mX8_firstWay [vR (some (18, 0, 144)), vR (some (11, 0, a1)), vI 0] (I, S) (.inl (some (vI (if z1 = true then (1 : Int) else 0)))) (J1, S)) : Ca (d + 1) mX8_paintAll [vR (some (18, 0, 144)), vR (some (11, 0, a1))] (I, S) (.inl (some (vI (if z1 = true then (1 : Int) else 0)))) (J1, S) :=
  Ca.of rfl rfl (
  b_X8_paintAll_0  g1 (ev_ret2 rfl rfl (b_X8_paintAll_6 (ite01 _))))
theorem c_X8_allWays {d : Nat} {I : Nat → Nat → Int} {S : PS} {a1 : Nat} {J1 : Nat → Nat → Int} {z1 : Int} (hl0 : LyX8 S) (hl1 : LyX0 S a1)
    (g1 : Ca d mX8_countWays [vR (some (18, 0, 144)), vR (some (11, 0, a1)), vI 0] (I, S) (.inl (some (vI z1))) (J1, S)) : Ca (d + 1) mX8_allWays [vR (some (18, 0, 144)), vR (some (11, 0, a1))] (I, S) (.inl (some (vI z1))) (J1, S) :=
  Ca.of rfl rfl (
  b_X8_allWays_0  g1 (ev_ret2 rfl rfl (b_X8_allWays_6 )))
end
