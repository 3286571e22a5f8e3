noncomputable section
abbrev L_X3_fillFrom_49 (d : Nat) (a0 : Nat) (x1 : Int) (x2 : Int) (x3 : Int) (x4 : Int) (x5 : Int) (x6 : Int) (I : Nat → Nat → Int) (S : PS) (v : Int) (h1 : PM) : Prop := Ev (d + 1) mX3_fillFrom (49, [some (vR (some (14, 0, a0))), some (vI x1), some (vI x2), some (vI x3), some (vI x4), some (vI x5), some (vI x6)], [], (I, S)) (.inl (some (vI v)), h1)
theorem w_X3_fillFrom_0 {d : Nat} {I : Nat → Nat → Int} {S : PS} {a0 : Nat} {x1 : Int} {b2 : Prop} [Decidable b2] {v : Int} {h1 : PM} (hl0 : LyX3 S a0)
    (k1 : (x1 < I a0 4) → L_X3_fillFrom_49 d a0 x1 (if b2 then (1 : Int) else 0) (p_shl 1 x1) (p_and (I (a0 + 2) x1.toNat) (p_shl 1 x1 - 1)) (if ¬(b2) then (0 : Int) else p_and (I (a0 + 3) x1.toNat) (p_shl 1 x1 - 1)) 0 I S v h1)
    (r1 : (I a0 4 ≤ x1) → 1 = v)
    (e1 : (I a0 4 ≤ x1) → (I, S) = h1 := by intros; first | rfl | (exfalso; omega) | contradiction | (exfalso; simp_all; done))
    (v1 : (x1 < I a0 4) → 0 ≤ x1 ∧ x1 < (15 : Nat) := by intros; first | assumption | omega | (split <;> omega))
    (v2 : (x1 < I a0 4) → -2147483648 ≤ p_shl 1 x1 - 1 ∧ p_shl 1 x1 - 1 ≤ 2147483647 := by intros; first | assumption | omega | (split <;> omega)) : Ca (d + 1) mX3_fillFrom [vR (some (14, 0, a0)), vI x1, vI (if b2 then (1 : Int) else 0)] (I, S) (.inl (some (vI v))) h1 :=
  Ca.of rfl rfl (
  b_X3_fillFrom_0  (fun (c1 : x1 < I a0 4) => 
    have K4 : ∀ us0 : Int, us0 = (if ¬(b2) then (0 : Int) else p_and (I (a0 + 3) x1.toNat) (p_shl 1 x1 - 1)) → Ev (d + 1) mX3_fillFrom (44, [some (vR (some (14, 0, a0))), some (vI x1), some (vI (if b2 then (1 : Int) else 0)), some (vI (p_shl 1 x1)), some (vI (p_and (I (a0 + 2) x1.toNat) (p_shl 1 x1 - 1))), none, none], [vI us0], (I, S)) (.inl (some (vI v)), h1) := fun us0 e_us0 => by subst e_us0; exact (
      b_X3_fillFrom_44  ((k1 c1)))
    
    b_X3_fillFrom_10 (ly_X3_5 hl0) (v1 c1) (v2 c1) (fun c3' => have c3 : ¬(b2) := b2f c3'; 
      b_X3_fillFrom_43  (K4 0 ((if_pos c3).symm))) (fun c4' => have c4 : b2 := b2t c4'; 
      b_X3_fillFrom_30 (ly_X3_7 hl0) (v1 c1) (v2 c1) (K4 (p_and (I (a0 + 3) x1.toNat) (p_shl 1 x1 - 1)) ((if_neg (fun q => q c4)).symm)))) (fun (c2 : I a0 4 ≤ x1) => ev_ret2 (r1 c2) (e1 c2) (b_X3_fillFrom_8 )))
theorem w_X3_fillFrom_49 {d : Nat} {I : Nat → Nat → Int} {S : PS} {a0 : Nat} {x1 x3 x4 x5 x6 : Int} {b2 : Prop} {J1 : Nat → Nat → Int} {z1 : Bool} [Decidable b2] {v : Int} {h1 : PM} (hl0 : LyX3 S a0)
    (k1 : (x6 < 4) → (p_and x4 (I (a0 + 4) x6.toNat) ≠ x5) → L_X3_fillFrom_49 d a0 x1 (if b2 then (1 : Int) else 0) x3 x4 x5 (x6 + 1) I S v h1)
    (g1 : (x6 < 4) → (p_and x4 (I (a0 + 4) x6.toNat) = x5) → Ca d mX3_fillFrom [vR (some (14, 0, a0)), vI (x1 + 1), vI (if b2 then (1 : Int) else 0)] ((up2 I (a0 + 4) (x6.toNat) (p_or (I (a0 + 4) x6.toNat) x3)), S) (.inl (some (vI (if z1 = true then (1 : Int) else 0)))) (J1, S))
    (k2 : (x6 < 4) → (p_and x4 (I (a0 + 4) x6.toNat) = x5) → (¬(z1 = true)) → L_X3_fillFrom_49 d a0 x1 (if b2 then (1 : Int) else 0) x3 x4 x5 (x6 + 1) (up2 J1 (a0 + 4) (x6.toNat) (p_and (J1 (a0 + 4) x6.toNat) (p_xor x3 (-1)))) S v h1)
    (r1 : (4 ≤ x6) → 0 = v)
    (e1 : (4 ≤ x6) → (I, S) = h1 := by intros; first | rfl | (exfalso; omega) | contradiction | (exfalso; simp_all; done))
    (r2 : (x6 < 4) → (p_and x4 (I (a0 + 4) x6.toNat) = x5) → (z1 = true) → 1 = v)
    (e2 : (x6 < 4) → (p_and x4 (I (a0 + 4) x6.toNat) = x5) → (z1 = true) → (J1, S) = h1 := by intros; first | rfl | (exfalso; omega) | contradiction | (exfalso; simp_all; done))
    (v1 : (x6 < 4) → 0 ≤ x6 ∧ x6 < (4 : Nat) := by intros; first | assumption | omega | (split <;> omega))
    (v2 : (x6 < 4) → (p_and x4 (I (a0 + 4) x6.toNat) ≠ x5) → -2147483648 ≤ x6 + 1 ∧ x6 + 1 ≤ 2147483647 := by intros; first | assumption | omega | (split <;> omega))
    (v3 : (x6 < 4) → (p_and x4 (I (a0 + 4) x6.toNat) = x5) → -2147483648 ≤ x1 + 1 ∧ x1 + 1 ≤ 2147483647 := by intros; first | assumption | omega | (split <;> omega))
    (v4 : (x6 < 4) → (p_and x4 (I (a0 + 4) x6.toNat) = x5) → (¬(z1 = true)) → -2147483648 ≤ x6 + 1 ∧ x6 + 1 ≤ 2147483647 := by intros; first | assumption | omega | (split <;> omega)) : L_X3_fillFrom_49 d a0 x1 (if b2 then (1 : Int) else 0) x3 x4 x5 x6 I S v h1 :=
  
  b_X3_fillFrom_49  (fun (c1 : 4 ≤ x6) => ev_ret2 (r1 c1) (e1 c1) (b_X3_fillFrom_113 )) (fun (c2 : x6 < 4) => 
    b_X3_fillFrom_55 (ly_X3_8 hl0) (v1 c2) (fun (c3 : p_and x4 (I (a0 + 4) x6.toNat) ≠ x5) => 
      b_X3_fillFrom_107 (v2 c2 c3) ((k1 c2 c3))) (fun (c4 : p_and x4 (I (a0 + 4) x6.toNat) = x5) => 
      b_X3_fillFrom_70 (ly_X3_8 hl0) (v1 c2) (v1 c2) (v3 c2 c4) (g1 c2 c4) (
      b_X3_fillFrom_89  (fun c5' => have c5 : ¬(z1 = true) := b2f c5'; 
        b_X3_fillFrom_94 (ly_X3_8 hl0) (v1 c2) (v1 c2) (
        b_X3_fillFrom_107 (v4 c2 c4 c5) ((k2 c2 c4 c5)))) (fun c6' => have c6 : z1 = true := b2t c6'; ev_ret2 (r2 c2 c4 c6) (e2 c2 c4 c6) (b_X3_fillFrom_92 )))))
abbrev L_X6_grow_41 (d : Nat) (a0 : Nat) (x1 : Int) (x2 : Int) (x3 : Int) (x4 : Int) (I : Nat → Nat → Int) (S : PS) (h1 : PM) : Prop := Ev (d + 1) mX6_grow (41, [some (vR (some (16, 0, a0))), some (vI x1), some (vI x2), some (vI x3), some (vI x4), none], [], (I, S)) (.inl none, h1)
theorem w_X6_grow_0 {d : Nat} {I : Nat → Nat → Int} {S : PS} {a0 : Nat} {x1 x2 x3 : Int} {h1 : PM} (hl0 : LyX6 S a0)
    (k1 : (x1 < I a0 0) → L_X6_grow_41 d a0 x1 x2 x3 0 I S h1)
    (e1 : (I a0 0 ≤ x1) → (91 ≤ I a0 1) → (I, S) = h1 := by intros; first | rfl | (exfalso; omega) | contradiction | (exfalso; simp_all; done))
    (e2 : (I a0 0 ≤ x1) → (I a0 1 < 91) → ((up2 (up2 I (a0 + 1) ((I a0 1).toNat) x2) a0 1 (((up2 I (a0 + 1) ((I a0 1).toNat) x2) a0 1) + 1)), S) = h1 := by intros; first | rfl | (exfalso; omega) | contradiction | (exfalso; simp_all; done))
    (v1 : (I a0 0 ≤ x1) → (I a0 1 < 91) → 0 ≤ I a0 1 ∧ I a0 1 < (91 : Nat) := by intros; first | assumption | omega | (split <;> omega))
    (v2 : (I a0 0 ≤ x1) → (I a0 1 < 91) → -2147483648 ≤ ((up2 I (a0 + 1) ((I a0 1).toNat) x2) a0 1) + 1 ∧ ((up2 I (a0 + 1) ((I a0 1).toNat) x2) a0 1) + 1 ≤ 2147483647 := by intros; first | assumption | omega | (split <;> omega)) : Ca (d + 1) mX6_grow [vR (some (16, 0, a0)), vI x1, vI x2, vI x3] (I, S) (.inl none) h1 :=
  Ca.of rfl rfl (
  b_X6_grow_0  (fun (c1 : x1 < I a0 0) => 
    b_X6_grow_38  ((k1 c1))) (fun (c2 : I a0 0 ≤ x1) => 
    b_X6_grow_8  (fun (c3 : 91 ≤ I a0 1) => ev_retV (e1 c2 c3) (b_X6_grow_37 )) (fun (c4 : I a0 1 < 91) => 
      b_X6_grow_17 (ly_X6_2 hl0) (v1 c2 c4) (v2 c2 c4) (ev_retV (e2 c2 c4) (b_X6_grow_37 )))))
theorem w_X6_grow_41 {d : Nat} {I : Nat → Nat → Int} {S : PS} {a0 : Nat} {x1 x2 x3 x4 : Int} {J1 : Nat → Nat → Int} {h1 : PM} (hl0 : LyX6 S a0)
    (k1 : (x4 ≤ x3) → (x4 < 4) → (x4 = p_and x2 3) → L_X6_grow_41 d a0 x1 x2 x3 (x4 + 1) I S h1)
    (k2 : (x4 ≤ x3) → (x4 < 4) → (x4 ≠ p_and x2 3) → ((x1 = I a0 0 - 1) ∧ (x4 = 0)) → L_X6_grow_41 d a0 x1 x2 x3 (x4 + 1) I S h1)
    (g1 : (x4 ≤ x3) → (x4 < 4) → (x4 ≠ p_and x2 3) → (¬((x1 = I a0 0 - 1) ∧ (x4 = 0))) → Ca d mX6_grow [vR (some (16, 0, a0)), vI (x1 + 1), vI (p_or (p_shl x2 2) x4), vI (if x4 ≠ x3 then (x3 : Int) else x3 + 1)] (I, S) (.inl none) (J1, S))
    (k3 : (x4 ≤ x3) → (x4 < 4) → (x4 ≠ p_and x2 3) → (¬((x1 = I a0 0 - 1) ∧ (x4 = 0))) → L_X6_grow_41 d a0 x1 x2 x3 (x4 + 1) J1 S h1)
    (e1 : (x3 < x4) → (I, S) = h1 := by intros; first | rfl | (exfalso; omega) | contradiction | (exfalso; simp_all; done))
    (e2 : (x4 ≤ x3) → (4 ≤ x4) → (I, S) = h1 := by intros; first | rfl | (exfalso; omega) | contradiction | (exfalso; simp_all; done))
    (v1 : (x4 ≤ x3) → (x4 < 4) → -2147483648 ≤ I a0 0 - 1 ∧ I a0 0 - 1 ≤ 2147483647 := by intros; first | assumption | omega | (split <;> omega))
    (v2 : (x4 ≤ x3) → (x4 < 4) → (x4 = p_and x2 3) → -2147483648 ≤ x4 + 1 ∧ x4 + 1 ≤ 2147483647 := by intros; first | assumption | omega | (split <;> omega))
    (v3 : (x4 ≤ x3) → (x4 < 4) → (x4 ≠ p_and x2 3) → ((x1 = I a0 0 - 1) ∧ (x4 = 0)) → -2147483648 ≤ x4 + 1 ∧ x4 + 1 ≤ 2147483647 := by intros; first | assumption | omega | (split <;> omega))
    (v4 : (x4 ≤ x3) → (x4 < 4) → (x4 ≠ p_and x2 3) → (¬((x1 = I a0 0 - 1) ∧ (x4 = 0))) → -2147483648 ≤ x1 + 1 ∧ x1 + 1 ≤ 2147483647 := by intros; first | assumption | omega | (split <;> omega))
    (v5 : (x4 ≤ x3) → (x4 < 4) → (x4 ≠ p_and x2 3) → (¬((x1 = I a0 0 - 1) ∧ (x4 = 0))) → (x4 = x3) → -2147483648 ≤ x3 + 1 ∧ x3 + 1 ≤ 2147483647 := by intros; first | assumption | omega | (split <;> omega))
    (v6 : (x4 ≤ x3) → (x4 < 4) → (x4 ≠ p_and x2 3) → (¬((x1 = I a0 0 - 1) ∧ (x4 = 0))) → -2147483648 ≤ x4 + 1 ∧ x4 + 1 ≤ 2147483647 := by intros; first | assumption | omega | (split <;> omega)) : L_X6_grow_41 d a0 x1 x2 x3 x4 I S h1 :=
  
  b_X6_grow_41  (fun (c1 : x3 < x4) => ev_retV (e1 c1) (b_X6_grow_120 )) (fun (c2 : x4 ≤ x3) => 
    b_X6_grow_47  (fun (c3 : 4 ≤ x4) => ev_retV (e2 c2 c3) (b_X6_grow_120 )) (fun (c4 : x4 < 4) => 
      have K8 : ∀ us0 : Int, us0 = (if (x1 = I a0 0 - 1) ∧ (x4 = 0) then (1 : Int) else 0) → Ev (d + 1) mX6_grow (73, [some (vR (some (16, 0, a0))), some (vI x1), some (vI x2), some (vI x3), some (vI x4), none], [vI us0], (I, S)) (.inl none, h1) := fun us0 e_us0 => by subst e_us0; exact (
        b_X6_grow_73  (fun (c10 : x4 = p_and x2 3) => 
          b_X6_grow_114 (v2 c2 c4 c10) ((k1 c2 c4 c10))) (fun (c11 : x4 ≠ p_and x2 3) => 
          b_X6_grow_83  (fun c12' => have c12 : (x1 = I a0 0 - 1) ∧ (x4 = 0) := b2t c12'; 
            b_X6_grow_114 (v3 c2 c4 c11 c12) ((k2 c2 c4 c11 c12))) (fun c13' => have c13 : ¬((x1 = I a0 0 - 1) ∧ (x4 = 0)) := b2f c13'; 
            have K15 : ∀ us3 : Int, us3 = (if x4 ≠ x3 then (x3 : Int) else x3 + 1) → Ev (d + 1) mX6_grow (111, [some (vR (some (16, 0, a0))), some (vI x1), some (vI x2), some (vI x3), some (vI x4), some (vI (if (x1 = I a0 0 - 1) ∧ (x4 = 0) then (1 : Int) else 0))], [vI us3, vI (p_or (p_shl x2 2) x4), vI (x1 + 1), vR (some (16, 0, a0))], (I, S)) (.inl none, h1) := fun us3 e_us3 => by subst e_us3; exact (
              b_X6_grow_111  (g1 c2 c4 c11 c13) (
              b_X6_grow_114 (v6 c2 c4 c11 c13) ((k3 c2 c4 c11 c13))))
            
            b_X6_grow_88 (v4 c2 c4 c11 c13) (fun (c14 : x4 ≠ x3) => 
              b_X6_grow_110  (K15 x3 ((if_pos c14).symm))) (fun (c15 : x4 = x3) => 
              b_X6_grow_104 (v5 c2 c4 c11 c13 c15) (K15 (x3 + 1) ((if_neg (fun q => q c15)).symm))))))
      
      b_X6_grow_53 (v1 c2 c4) (fun (c5 : x1 ≠ I a0 0 - 1) => 
        b_X6_grow_72  (K8 0 (if_neg (fun q => c5 q.1)).symm)) (fun (c6 : x1 = I a0 0 - 1) => 
        b_X6_grow_63  (fun (c7 : x4 ≠ 0) => 
          b_X6_grow_72  (K8 0 (if_neg (fun q => c7 q.2)).symm)) (fun (c8 : x4 = 0) => 
          b_X6_grow_68  (K8 1 (if_pos ⟨c6, c8⟩).symm)))))
abbrev L_X8_firstWay_32 (d : Nat) (a0 : Nat) (a1 : Nat) (x2 : Int) (x3 : Int) (I : Nat → Nat → Int) (S : PS) (v : Int) (h1 : PM) : Prop := Ev (d + 2) mX8_firstWay (32, [some (vR (some (18, 0, a0))), some (vR (some (11, 0, a1))), some (vI x2), some (vI x3)], [], (I, S)) (.inl (some (vI v)), h1)
theorem w_X8_firstWay_0 {d : Nat} {I : Nat → Nat → Int} {S : PS} {a1 : Nat} {x2 : Int} {J1 : Nat → Nat → Int} {z1 : Bool} {v : Int} {h1 : PM} (hl0 : LyX8 S) (hl1 : LyX0 S a1)
    (k1 : (x2 < I a1 6) → (¬(p_and (p_shr (p_or (p_or (p_or (I (145 + 1) 0) (I (145 + 1) 1)) (I (145 + 1) 2)) (I (145 + 1) 3)) x2) 1 ≠ 0)) → L_X8_firstWay_32 d 144 a1 x2 0 I S v h1)
    (g1 : (x2 < I a1 6) → (p_and (p_shr (p_or (p_or (p_or (I (145 + 1) 0) (I (145 + 1) 1)) (I (145 + 1) 2)) (I (145 + 1) 3)) x2) 1 ≠ 0) → Ca (d + 1) mX8_firstWay [vR (some (18, 0, 144)), vR (some (11, 0, a1)), vI (x2 + 1)] (I, S) (.inl (some (vI (if z1 = true then (1 : Int) else 0)))) (J1, S))
    (r1 : (x2 < I a1 6) → (p_and (p_shr (p_or (p_or (p_or (I (145 + 1) 0) (I (145 + 1) 1)) (I (145 + 1) 2)) (I (145 + 1) 3)) x2) 1 ≠ 0) → (if z1 = true then (1 : Int) else 0) = v)
    (e1 : (x2 < I a1 6) → (p_and (p_shr (p_or (p_or (p_or (I (145 + 1) 0) (I (145 + 1) 1)) (I (145 + 1) 2)) (I (145 + 1) 3)) x2) 1 ≠ 0) → (J1, S) = h1 := by intros; first | rfl | (exfalso; omega) | contradiction | (exfalso; simp_all; done))
    (r2 : (I a1 6 ≤ x2) → 1 = v)
    (e2 : (I a1 6 ≤ x2) → (I, S) = h1 := by intros; first | rfl | (exfalso; omega) | contradiction | (exfalso; simp_all; done))
    (v1 : (x2 < I a1 6) → (p_and (p_shr (p_or (p_or (p_or (I (145 + 1) 0) (I (145 + 1) 1)) (I (145 + 1) 2)) (I (145 + 1) 3)) x2) 1 ≠ 0) → -2147483648 ≤ x2 + 1 ∧ x2 + 1 ≤ 2147483647 := by intros; first | assumption | omega | (split <;> omega)) : Ca (d + 2) mX8_firstWay [vR (some (18, 0, 144)), vR (some (11, 0, a1)), vI x2] (I, S) (.inl (some (vI v))) h1 :=
  Ca.of rfl rfl (
  b_X8_firstWay_0  (fun (c1 : x2 < I a1 6) => 
    b_X8_firstWay_10 (ly_X8_0 hl0) (c_X2_isPainted (ly_X8_p hl0)) (
    b_X8_firstWay_18  (fun c3' => have c3 : ¬(p_and (p_shr (p_or (p_or (p_or (I (145 + 1) 0) (I (145 + 1) 1)) (I (145 + 1) 2)) (I (145 + 1) 3)) x2) 1 ≠ 0) := b2f c3'; 
      b_X8_firstWay_30  ((k1 c1 c3))) (fun c4' => have c4 : p_and (p_shr (p_or (p_or (p_or (I (145 + 1) 0) (I (145 + 1) 1)) (I (145 + 1) 2)) (I (145 + 1) 3)) x2) 1 ≠ 0 := b2t c4'; 
      b_X8_firstWay_21 (v1 c1 c4) (g1 c1 c4) (ev_ret2 (r1 c1 c4) (e1 c1 c4) (b_X8_firstWay_29 (ite01 _)))))) (fun (c2 : I a1 6 ≤ x2) => ev_ret2 (r2 c2) (e2 c2) (b_X8_firstWay_8 )))
theorem w_X8_firstWay_32 {d : Nat} {I : Nat → Nat → Int} {S : PS} {a1 : Nat} {x2 x3 : Int} {J1 : Nat → Nat → Int} {z1 : Bool} {v : Int} {h1 : PM} (hl0 : LyX8 S) (hl1 : LyX0 S a1)
    (k1 : (x3 < 4) → (p_and (I 146 x3.toNat) (I (a1 + 5) x2.toNat) ≠ 0) → L_X8_firstWay_32 d 144 a1 x2 (x3 + 1) I S v h1)
    (g1 : (x3 < 4) → (p_and (I 146 x3.toNat) (I (a1 + 5) x2.toNat) = 0) → Ca (d + 1) mX8_firstWay [vR (some (18, 0, 144)), vR (some (11, 0, a1)), vI (x2 + 1)] ((up2 I (145 + 1) (x3.toNat) (p_or (I (145 + 1) x3.toNat) (p_shl 1 x2))), S) (.inl (some (vI (if z1 = true then (1 : Int) else 0)))) (J1, S))
    (k2 : (x3 < 4) → (p_and (I 146 x3.toNat) (I (a1 + 5) x2.toNat) = 0) → (¬(z1 = true)) → L_X8_firstWay_32 d 144 a1 x2 (x3 + 1) (up2 J1 (145 + 1) (x3.toNat) (p_and (J1 (145 + 1) x3.toNat) (p_xor (p_shl 1 x2) (-1)))) S v h1)
    (r1 : (4 ≤ x3) → 0 = v)
    (e1 : (4 ≤ x3) → (I, S) = h1 := by intros; first | rfl | (exfalso; omega) | contradiction | (exfalso; simp_all; done))
    (r2 : (x3 < 4) → (p_and (I 146 x3.toNat) (I (a1 + 5) x2.toNat) = 0) → (z1 = true) → 1 = v)
    (e2 : (x3 < 4) → (p_and (I 146 x3.toNat) (I (a1 + 5) x2.toNat) = 0) → (z1 = true) → (J1, S) = h1 := by intros; first | rfl | (exfalso; omega) | contradiction | (exfalso; simp_all; done))
    (v1 : (x3 < 4) → 0 ≤ x3 ∧ x3 < (4 : Nat) := by intros; first | assumption | omega | (split <;> omega))
    (v2 : (x3 < 4) → 0 ≤ x2 ∧ x2 < (12 : Nat) := by intros; first | assumption | omega | (split <;> omega))
    (v3 : (x3 < 4) → (p_and (I 146 x3.toNat) (I (a1 + 5) x2.toNat) ≠ 0) → -2147483648 ≤ x3 + 1 ∧ x3 + 1 ≤ 2147483647 := by intros; first | assumption | omega | (split <;> omega))
    (v4 : (x3 < 4) → (p_and (I 146 x3.toNat) (I (a1 + 5) x2.toNat) = 0) → 0 ≤ x3 ∧ x3 < 4 := by intros; first | assumption | omega | (split <;> omega))
    (v5 : (x3 < 4) → (p_and (I 146 x3.toNat) (I (a1 + 5) x2.toNat) = 0) → -2147483648 ≤ x2 + 1 ∧ x2 + 1 ≤ 2147483647 := by intros; first | assumption | omega | (split <;> omega))
    (v6 : (x3 < 4) → (p_and (I 146 x3.toNat) (I (a1 + 5) x2.toNat) = 0) → (¬(z1 = true)) → -2147483648 ≤ x3 + 1 ∧ x3 + 1 ≤ 2147483647 := by intros; first | assumption | omega | (split <;> omega)) : L_X8_firstWay_32 d 144 a1 x2 x3 I S v h1 :=
  
  b_X8_firstWay_32  (fun (c1 : 4 ≤ x3) => ev_ret2 (r1 c1) (e1 c1) (b_X8_firstWay_93 )) (fun (c2 : x3 < 4) => 
    b_X8_firstWay_37 (ly_X8_0 hl0) (ly_X2_0 (ly_X8_p hl0)) (v1 c2) (ly_X0_4 hl1) (v2 c2) (fun (c3 : p_and (I 146 x3.toNat) (I (a1 + 5) x2.toNat) ≠ 0) => 
      b_X8_firstWay_87 (v3 c2 c3) ((k1 c2 c3))) (fun (c4 : p_and (I 146 x3.toNat) (I (a1 + 5) x2.toNat) = 0) => 
      b_X8_firstWay_56 (ly_X8_0 hl0) (c_X2_put (ly_X8_p hl0) (v4 c2 c4)) (
      b_X8_firstWay_65 (v5 c2 c4) (g1 c2 c4) (
      b_X8_firstWay_73  (fun c5' => have c5 : ¬(z1 = true) := b2f c5'; 
        b_X8_firstWay_78 (ly_X8_0 hl0) (c_X2_take (ly_X8_p hl0) (v4 c2 c4)) (
        b_X8_firstWay_87 (v6 c2 c4 c5) ((k2 c2 c4 c5)))) (fun c6' => have c6 : z1 = true := b2t c6'; ev_ret2 (r2 c2 c4 c6) (e2 c2 c4 c6) (b_X8_firstWay_76 ))))))
abbrev L_X8_countWays_38 (d : Nat) (a0 : Nat) (a1 : Nat) (x2 : Int) (x3 : Int) (x4 : Int) (x5 : Int) (I : Nat → Nat → Int) (S : PS) (v : Int) (h1 : PM) : Prop := Ev (d + 2) mX8_countWays (38, [some (vR (some (18, 0, a0))), some (vR (some (11, 0, a1))), some (vI x2), some (vI x3), some (vI x4), some (vI x5), none, none], [], (I, S)) (.inl (some (vI v)), h1)
theorem w_X8_countWays_0 {d : Nat} {I : Nat → Nat → Int} {S : PS} {a1 : Nat} {x2 z1 : Int} {J1 : Nat → Nat → Int} {v : Int} {h1 : PM} (hl0 : LyX8 S) (hl1 : LyX0 S a1)
    (k1 : (x2 < I a1 6) → (¬(p_and (p_shr (p_or (p_or (p_or (I (145 + 1) 0) (I (145 + 1) 1)) (I (145 + 1) 2)) (I (145 + 1) 3)) x2) 1 ≠ 0)) → L_X8_countWays_38 d 144 a1 x2 0 (-1) 0 I S v h1)
    (g1 : (x2 < I a1 6) → (p_and (p_shr (p_or (p_or (p_or (I (145 + 1) 0) (I (145 + 1) 1)) (I (145 + 1) 2)) (I (145 + 1) 3)) x2) 1 ≠ 0) → Ca (d + 1) mX8_countWays [vR (some (18, 0, 144)), vR (some (11, 0, a1)), vI (x2 + 1)] (I, S) (.inl (some (vI z1))) (J1, S))
    (r1 : (x2 < I a1 6) → (p_and (p_shr (p_or (p_or (p_or (I (145 + 1) 0) (I (145 + 1) 1)) (I (145 + 1) 2)) (I (145 + 1) 3)) x2) 1 ≠ 0) → z1 = v)
    (e1 : (x2 < I a1 6) → (p_and (p_shr (p_or (p_or (p_or (I (145 + 1) 0) (I (145 + 1) 1)) (I (145 + 1) 2)) (I (145 + 1) 3)) x2) 1 ≠ 0) → (J1, S) = h1 := by intros; first | rfl | (exfalso; omega) | contradiction | (exfalso; simp_all; done))
    (r2 : (I a1 6 ≤ x2) → 1 = v)
    (e2 : (I a1 6 ≤ x2) → (I, S) = h1 := by intros; first | rfl | (exfalso; omega) | contradiction | (exfalso; simp_all; done))
    (v1 : (x2 < I a1 6) → (p_and (p_shr (p_or (p_or (p_or (I (145 + 1) 0) (I (145 + 1) 1)) (I (145 + 1) 2)) (I (145 + 1) 3)) x2) 1 ≠ 0) → -2147483648 ≤ x2 + 1 ∧ x2 + 1 ≤ 2147483647 := by intros; first | assumption | omega | (split <;> omega)) : Ca (d + 2) mX8_countWays [vR (some (18, 0, 144)), vR (some (11, 0, a1)), vI x2] (I, S) (.inl (some (vI v))) h1 :=
  Ca.of rfl rfl (
  b_X8_countWays_0  (fun (c1 : x2 < I a1 6) => 
    b_X8_countWays_10 (ly_X8_0 hl0) (c_X2_isPainted (ly_X8_p hl0)) (
    b_X8_countWays_18  (fun c3' => have c3 : ¬(p_and (p_shr (p_or (p_or (p_or (I (145 + 1) 0) (I (145 + 1) 1)) (I (145 + 1) 2)) (I (145 + 1) 3)) x2) 1 ≠ 0) := b2f c3'; 
      b_X8_countWays_30  ((k1 c1 c3))) (fun c4' => have c4 : p_and (p_shr (p_or (p_or (p_or (I (145 + 1) 0) (I (145 + 1) 1)) (I (145 + 1) 2)) (I (145 + 1) 3)) x2) 1 ≠ 0 := b2t c4'; 
      b_X8_countWays_21 (v1 c1 c4) (g1 c1 c4) (ev_ret2 (r1 c1 c4) (e1 c1 c4) (b_X8_countWays_29 ))))) (fun (c2 : I a1 6 ≤ x2) => ev_ret2 (r2 c2) (e2 c2) (b_X8_countWays_8 )))
theorem w_X8_countWays_38 {d : Nat} {I : Nat → Nat → Int} {S : PS} {a1 : Nat} {x2 x3 x4 x5 z1 z2 : Int} {J1 J2 : Nat → Nat → Int} {v : Int} {h1 : PM} (hl0 : LyX8 S) (hl1 : LyX0 S a1)
    (k1 : (x5 < 4) → (¬(I 146 x5.toNat = 0)) → (p_and (I 146 x5.toNat) (I (a1 + 5) x2.toNat) ≠ 0) → L_X8_countWays_38 d 144 a1 x2 x3 x4 (x5 + 1) I S v h1)
    (g1 : (x5 < 4) → (¬(I 146 x5.toNat = 0)) → (p_and (I 146 x5.toNat) (I (a1 + 5) x2.toNat) = 0) → Ca (d + 1) mX8_countWays [vR (some (18, 0, 144)), vR (some (11, 0, a1)), vI (x2 + 1)] ((up2 I (145 + 1) (x5.toNat) (p_or (I (145 + 1) x5.toNat) (p_shl 1 x2))), S) (.inl (some (vI z1))) (J1, S))
    (k2 : (x5 < 4) → (¬(I 146 x5.toNat = 0)) → (p_and (I 146 x5.toNat) (I (a1 + 5) x2.toNat) = 0) → L_X8_countWays_38 d 144 a1 x2 (x3 + z1) (if ¬(I 146 x5.toNat = 0) then (x4 : Int) else z1) (x5 + 1) (up2 J1 (145 + 1) (x5.toNat) (p_and (J1 (145 + 1) x5.toNat) (p_xor (p_shl 1 x2) (-1)))) S v h1)
    (k3 : (x5 < 4) → (I 146 x5.toNat = 0) → (x4 = (-1)) → (p_and (I 146 x5.toNat) (I (a1 + 5) x2.toNat) ≠ 0) → L_X8_countWays_38 d 144 a1 x2 x3 x4 (x5 + 1) I S v h1)
    (g2 : (x5 < 4) → (I 146 x5.toNat = 0) → (x4 = (-1)) → (p_and (I 146 x5.toNat) (I (a1 + 5) x2.toNat) = 0) → Ca (d + 1) mX8_countWays [vR (some (18, 0, 144)), vR (some (11, 0, a1)), vI (x2 + 1)] ((up2 I (145 + 1) (x5.toNat) (p_or (I (145 + 1) x5.toNat) (p_shl 1 x2))), S) (.inl (some (vI z2))) (J2, S))
    (k4 : (x5 < 4) → (I 146 x5.toNat = 0) → (x4 = (-1)) → (p_and (I 146 x5.toNat) (I (a1 + 5) x2.toNat) = 0) → L_X8_countWays_38 d 144 a1 x2 (x3 + z2) (if ¬(I 146 x5.toNat = 0) then (x4 : Int) else z2) (x5 + 1) (up2 J2 (145 + 1) (x5.toNat) (p_and (J2 (145 + 1) x5.toNat) (p_xor (p_shl 1 x2) (-1)))) S v h1)
    (k5 : (x5 < 4) → (I 146 x5.toNat = 0) → (x4 ≠ (-1)) → L_X8_countWays_38 d 144 a1 x2 (x3 + x4) x4 (x5 + 1) I S v h1)
    (r1 : (4 ≤ x5) → x3 = v)
    (e1 : (4 ≤ x5) → (I, S) = h1 := by intros; first | rfl | (exfalso; omega) | contradiction | (exfalso; simp_all; done))
    (v1 : (x5 < 4) → 0 ≤ x5 ∧ x5 < (4 : Nat) := by intros; first | assumption | omega | (split <;> omega))
    (v2 : (x5 < 4) → (¬(I 146 x5.toNat = 0)) → 0 ≤ x2 ∧ x2 < (12 : Nat) := by intros; first | assumption | omega | (split <;> omega))
    (v3 : (x5 < 4) → (¬(I 146 x5.toNat = 0)) → (p_and (I 146 x5.toNat) (I (a1 + 5) x2.toNat) ≠ 0) → -2147483648 ≤ x5 + 1 ∧ x5 + 1 ≤ 2147483647 := by intros; first | assumption | omega | (split <;> omega))
    (v4 : (x5 < 4) → (¬(I 146 x5.toNat = 0)) → (p_and (I 146 x5.toNat) (I (a1 + 5) x2.toNat) = 0) → 0 ≤ x5 ∧ x5 < 4 := by intros; first | assumption | omega | (split <;> omega))
    (v5 : (x5 < 4) → (¬(I 146 x5.toNat = 0)) → (p_and (I 146 x5.toNat) (I (a1 + 5) x2.toNat) = 0) → -2147483648 ≤ x2 + 1 ∧ x2 + 1 ≤ 2147483647 := by intros; first | assumption | omega | (split <;> omega))
    (v6 : (x5 < 4) → (¬(I 146 x5.toNat = 0)) → (p_and (I 146 x5.toNat) (I (a1 + 5) x2.toNat) = 0) → -2147483648 ≤ x3 + z1 ∧ x3 + z1 ≤ 2147483647 := by intros; first | assumption | omega | (split <;> omega))
    (v7 : (x5 < 4) → (¬(I 146 x5.toNat = 0)) → (p_and (I 146 x5.toNat) (I (a1 + 5) x2.toNat) = 0) → -2147483648 ≤ x5 + 1 ∧ x5 + 1 ≤ 2147483647 := by intros; first | assumption | omega | (split <;> omega))
    (v8 : (x5 < 4) → (I 146 x5.toNat = 0) → (x4 = (-1)) → 0 ≤ x2 ∧ x2 < (12 : Nat) := by intros; first | assumption | omega | (split <;> omega))
    (v9 : (x5 < 4) → (I 146 x5.toNat = 0) → (x4 = (-1)) → (p_and (I 146 x5.toNat) (I (a1 + 5) x2.toNat) ≠ 0) → -2147483648 ≤ x5 + 1 ∧ x5 + 1 ≤ 2147483647 := by intros; first | assumption | omega | (split <;> omega))
    (v10 : (x5 < 4) → (I 146 x5.toNat = 0) → (x4 = (-1)) → (p_and (I 146 x5.toNat) (I (a1 + 5) x2.toNat) = 0) → 0 ≤ x5 ∧ x5 < 4 := by intros; first | assumption | omega | (split <;> omega))
    (v11 : (x5 < 4) → (I 146 x5.toNat = 0) → (x4 = (-1)) → (p_and (I 146 x5.toNat) (I (a1 + 5) x2.toNat) = 0) → -2147483648 ≤ x2 + 1 ∧ x2 + 1 ≤ 2147483647 := by intros; first | assumption | omega | (split <;> omega))
    (v12 : (x5 < 4) → (I 146 x5.toNat = 0) → (x4 = (-1)) → (p_and (I 146 x5.toNat) (I (a1 + 5) x2.toNat) = 0) → -2147483648 ≤ x3 + z2 ∧ x3 + z2 ≤ 2147483647 := by intros; first | assumption | omega | (split <;> omega))
    (v13 : (x5 < 4) → (I 146 x5.toNat = 0) → (x4 = (-1)) → (p_and (I 146 x5.toNat) (I (a1 + 5) x2.toNat) = 0) → -2147483648 ≤ x5 + 1 ∧ x5 + 1 ≤ 2147483647 := by intros; first | assumption | omega | (split <;> omega))
    (v14 : (x5 < 4) → (I 146 x5.toNat = 0) → (x4 ≠ (-1)) → -2147483648 ≤ x3 + x4 ∧ x3 + x4 ≤ 2147483647 := by intros; first | assumption | omega | (split <;> omega))
    (v15 : (x5 < 4) → (I 146 x5.toNat = 0) → (x4 ≠ (-1)) → -2147483648 ≤ x5 + 1 ∧ x5 + 1 ≤ 2147483647 := by intros; first | assumption | omega | (split <;> omega)) : L_X8_countWays_38 d 144 a1 x2 x3 x4 x5 I S v h1 :=
  
  b_X8_countWays_38  (fun (c1 : 4 ≤ x5) => ev_ret2 (r1 c1) (e1 c1) (b_X8_countWays_158 )) (fun (c2 : x5 < 4) => 
    have K4 : ∀ us0 : Int, us0 = (if I 146 x5.toNat = 0 then (1 : Int) else 0) → Ev (d + 2) mX8_countWays (62, [some (vR (some (18, 0, 144))), some (vR (some (11, 0, a1))), some (vI x2), some (vI x3), some (vI x4), some (vI x5), none, none], [vI us0], (I, S)) (.inl (some (vI v)), h1) := fun us0 e_us0 => by subst e_us0; exact (
      b_X8_countWays_62  (fun c6' => have c6 : ¬(I 146 x5.toNat = 0) := b2f c6'; 
        b_X8_countWays_83 (ly_X8_0 hl0) (ly_X2_0 (ly_X8_p hl0)) (v1 c2) (ly_X0_4 hl1) (v2 c2 c6) (fun (c8 : p_and (I 146 x5.toNat) (I (a1 + 5) x2.toNat) ≠ 0) => 
          b_X8_countWays_152 (v3 c2 c6 c8) ((k1 c2 c6 c8))) (fun (c9 : p_and (I 146 x5.toNat) (I (a1 + 5) x2.toNat) = 0) => 
          b_X8_countWays_103 (ly_X8_0 hl0) (c_X2_put (ly_X8_p hl0) (v4 c2 c6 c9)) (
          b_X8_countWays_113 (v5 c2 c6 c9) (g1 c2 c6 c9) (
          b_X8_countWays_121 (ly_X8_0 hl0) (c_X2_take (ly_X8_p hl0) (v4 c2 c6 c9)) (
          have K11 : ∀ us0 : Int, us0 = (if ¬(I 146 x5.toNat = 0) then (x4 : Int) else z1) → Ev (d + 2) mX8_countWays (150, [some (vR (some (18, 0, 144))), some (vR (some (11, 0, a1))), some (vI x2), some (vI (x3 + z1)), some (vI x4), some (vI x5), some (vI (if I 146 x5.toNat = 0 then (1 : Int) else 0)), some (vI z1)], [vI us0], ((up2 J1 (145 + 1) (x5.toNat) (p_and (J1 (145 + 1) x5.toNat) (p_xor (p_shl 1 x2) (-1)))), S)) (.inl (some (vI v)), h1) := fun us0 e_us0 => by subst e_us0; exact (
            b_X8_countWays_150  (
            b_X8_countWays_152 (v7 c2 c6 c9) ((k2 c2 c6 c9))))
          
          b_X8_countWays_133 (v6 c2 c6 c9) (fun c10' => have c10 : ¬(I 146 x5.toNat = 0) := b2f c10'; 
            b_X8_countWays_148  (K11 x4 ((if_pos c10).symm))) (fun c11' => have c11 : I 146 x5.toNat = 0 := b2t c11'; 
            b_X8_countWays_143  (K11 z1 ((if_neg (fun q => q c11)).symm)))))))) (fun c7' => have c7 : I 146 x5.toNat = 0 := b2t c7'; 
        b_X8_countWays_69  (fun (c13 : x4 = (-1)) => 
          b_X8_countWays_83 (ly_X8_0 hl0) (ly_X2_0 (ly_X8_p hl0)) (v1 c2) (ly_X0_4 hl1) (v8 c2 c7 c13) (fun (c15 : p_and (I 146 x5.toNat) (I (a1 + 5) x2.toNat) ≠ 0) => 
            b_X8_countWays_152 (v9 c2 c7 c13 c15) ((k3 c2 c7 c13 c15))) (fun (c16 : p_and (I 146 x5.toNat) (I (a1 + 5) x2.toNat) = 0) => 
            b_X8_countWays_103 (ly_X8_0 hl0) (c_X2_put (ly_X8_p hl0) (v10 c2 c7 c13 c16)) (
            b_X8_countWays_113 (v11 c2 c7 c13 c16) (g2 c2 c7 c13 c16) (
            b_X8_countWays_121 (ly_X8_0 hl0) (c_X2_take (ly_X8_p hl0) (v10 c2 c7 c13 c16)) (
            have K18 : ∀ us0 : Int, us0 = (if ¬(I 146 x5.toNat = 0) then (x4 : Int) else z2) → Ev (d + 2) mX8_countWays (150, [some (vR (some (18, 0, 144))), some (vR (some (11, 0, a1))), some (vI x2), some (vI (x3 + z2)), some (vI x4), some (vI x5), some (vI (if I 146 x5.toNat = 0 then (1 : Int) else 0)), some (vI z2)], [vI us0], ((up2 J2 (145 + 1) (x5.toNat) (p_and (J2 (145 + 1) x5.toNat) (p_xor (p_shl 1 x2) (-1)))), S)) (.inl (some (vI v)), h1) := fun us0 e_us0 => by subst e_us0; exact (
              b_X8_countWays_150  (
              b_X8_countWays_152 (v13 c2 c7 c13 c16) ((k4 c2 c7 c13 c16))))
            
            b_X8_countWays_133 (v12 c2 c7 c13 c16) (fun c17' => have c17 : ¬(I 146 x5.toNat = 0) := b2f c17'; 
              b_X8_countWays_148  (K18 x4 ((if_pos c17).symm))) (fun c18' => have c18 : I 146 x5.toNat = 0 := b2t c18'; 
              b_X8_countWays_143  (K18 z2 ((if_neg (fun q => q c18)).symm)))))))) (fun (c14 : x4 ≠ (-1)) => 
          b_X8_countWays_75 (v14 c2 c7 c14) (
          b_X8_countWays_152 (v15 c2 c7 c14) ((k5 c2 c7 c14))))))
    
    b_X8_countWays_44 (ly_X8_0 hl0) (ly_X2_0 (ly_X8_p hl0)) (v1 c2) (fun (c3 : I 146 x5.toNat ≠ 0) => 
      b_X8_countWays_61  (K4 0 (if_neg c3).symm)) (fun (c4 : I 146 x5.toNat = 0) => 
      b_X8_countWays_57  (K4 1 (if_pos c4).symm)))
abbrev L_X8_isFreedBy_25 (d : Nat) (a0 : Nat) (a1 : Nat) (x2 : Int) (x3 : Int) (x4 : Int) (I : Nat → Nat → Int) (S : PS) (v : Int) (h1 : PM) : Prop := Ev (d + 2) mX8_isFreedBy (25, [some (vR (some (18, 0, a0))), some (vR (some (11, 0, a1))), some (vI x2), some (vI x3), some (vI x4), none, none, none, none], [], (I, S)) (.inl (some (vI v)), h1)
abbrev L_X8_isFreedBy_37 (d : Nat) (a0 : Nat) (a1 : Nat) (x2 : Int) (x3 : Int) (x4 : Int) (x5 : Int) (I : Nat → Nat → Int) (S : PS) (v : Int) (h1 : PM) : Prop := Ev (d + 2) mX8_isFreedBy (37, [some (vR (some (18, 0, a0))), some (vR (some (11, 0, a1))), some (vI x2), some (vI x3), some (vI x4), some (vI x5), none, none, none], [], (I, S)) (.inl (some (vI v)), h1)
theorem w_X8_isFreedBy_0 {d : Nat} {I : Nat → Nat → Int} {S : PS} {a1 : Nat} {x2 x3 : Int} {v : Int} {h1 : PM} (hl0 : LyX8 S) (hl1 : LyX0 S a1)
    (k1 : (0 < x3) → L_X8_isFreedBy_25 d 144 a1 x2 x3 0 I S v h1)
    (r1 : (x3 ≤ 0) → (if (frC (I (145 + 1)) (I (a1 + 5) x2.toNat) 4) ≠ 0 then (1 : Int) else 0) = v)
    (e1 : (x3 ≤ 0) → (I, S) = h1 := by intros; first | rfl | (exfalso; omega) | contradiction | (exfalso; simp_all; done))
    (v1 : (x3 ≤ 0) → 0 ≤ x2 ∧ x2 < 12 := by intros; first | assumption | omega | (split <;> omega)) : Ca (d + 2) mX8_isFreedBy [vR (some (18, 0, 144)), vR (some (11, 0, a1)), vI x2, vI x3] (I, S) (.inl (some (vI v))) h1 :=
  Ca.of rfl rfl (
  b_X8_isFreedBy_0  (fun (c1 : 0 < x3) => 
    b_X8_isFreedBy_22  ((k1 c1))) (fun (c2 : x3 ≤ 0) => 
    b_X8_isFreedBy_4 (ly_X8_0 hl0) (c_X2_freeColours (ly_X8_p hl0) hl1 (v1 c2)) (
    have K4 : ∀ us0 : Int, us0 = (if (frC (I (145 + 1)) (I (a1 + 5) x2.toNat) 4) ≠ 0 then (1 : Int) else 0) → Ev (d + 2) mX8_isFreedBy (21, [some (vR (some (18, 0, 144))), some (vR (some (11, 0, a1))), some (vI x2), some (vI x3), none, none, none, none, none], [vI us0], (I, S)) (.inl (some (vI v)), h1) := fun us0 e_us0 => by subst e_us0; exact (ev_ret2 (r1 c2) (e1 c2) (b_X8_isFreedBy_21 (ite01 _)))
    
    b_X8_isFreedBy_13  (fun (c3 : (frC (I (145 + 1)) (I (a1 + 5) x2.toNat) 4) = 0) => 
      b_X8_isFreedBy_20  (K4 0 (if_neg (fun q => q c3)).symm)) (fun (c4 : (frC (I (145 + 1)) (I (a1 + 5) x2.toNat) 4) ≠ 0) => 
      b_X8_isFreedBy_16  (K4 1 (if_pos c4).symm)))))
theorem w_X8_isFreedBy_25 {d : Nat} {I : Nat → Nat → Int} {S : PS} {a1 : Nat} {x2 x3 x4 : Int} {v : Int} {h1 : PM} (hl0 : LyX8 S) (hl1 : LyX0 S a1)
    (k1 : (x4 < I a1 6) → L_X8_isFreedBy_37 d 144 a1 x2 x3 x4 0 I S v h1)
    (r1 : (I a1 6 ≤ x4) → 0 = v)
    (e1 : (I a1 6 ≤ x4) → (I, S) = h1 := by intros; first | rfl | (exfalso; omega) | contradiction | (exfalso; simp_all; done)) : L_X8_isFreedBy_25 d 144 a1 x2 x3 x4 I S v h1 :=
  
  b_X8_isFreedBy_25  (fun (c1 : I a1 6 ≤ x4) => ev_ret2 (r1 c1) (e1 c1) (b_X8_isFreedBy_141 )) (fun (c2 : x4 < I a1 6) => 
    b_X8_isFreedBy_34  ((k1 c2)))
theorem w_X8_isFreedBy_37 {d : Nat} {I : Nat → Nat → Int} {S : PS} {a1 : Nat} {x2 x3 x4 x5 : Int} {J1 : Nat → Nat → Int} {z1 : Bool} {v : Int} {h1 : PM} (hl0 : LyX8 S) (hl1 : LyX0 S a1)
    (k1 : (4 ≤ x5) → L_X8_isFreedBy_25 d 144 a1 x2 x3 (x4 + 1) I S v h1)
    (k2 : (x5 < 4) → ((chC (I (145 + 1)) (I (a1 + 5)) (I a1 6) x4 x5) = 0) → L_X8_isFreedBy_37 d 144 a1 x2 x3 x4 (x5 + 1) I S v h1)
    (g1 : (x5 < 4) → ((chC (I (145 + 1)) (I (a1 + 5)) (I a1 6) x4 x5) ≠ 0) → Ca (d + 1) mX8_isFreedBy [vR (some (18, 0, 144)), vR (some (11, 0, a1)), vI x2, vI (x3 - 1)] ((up2 (up2 I (145 + 1) ((colO (I (145 + 1)) x4).toNat) (p_or (p_and (I (145 + 1) (colO (I (145 + 1)) x4).toNat) (p_xor (chC (I (145 + 1)) (I (a1 + 5)) (I a1 6) x4 x5) (-1))) (p_and (I (145 + 1) x5.toNat) (chC (I (145 + 1)) (I (a1 + 5)) (I a1 6) x4 x5)))) (145 + 1) (x5.toNat) (p_or (p_and ((up2 I (145 + 1) ((colO (I (145 + 1)) x4).toNat) (p_or (p_and (I (145 + 1) (colO (I (145 + 1)) x4).toNat) (p_xor (chC (I (145 + 1)) (I (a1 + 5)) (I a1 6) x4 x5) (-1))) (p_and (I (145 + 1) x5.toNat) (chC (I (145 + 1)) (I (a1 + 5)) (I a1 6) x4 x5)))) (145 + 1) x5.toNat) (p_xor (chC (I (145 + 1)) (I (a1 + 5)) (I a1 6) x4 x5) (-1))) (p_and (I (145 + 1) (colO (I (145 + 1)) x4).toNat) (chC (I (145 + 1)) (I (a1 + 5)) (I a1 6) x4 x5)))), S) (.inl (some (vI (if z1 = true then (1 : Int) else 0)))) (J1, S))
    (k3 : (x5 < 4) → ((chC (I (145 + 1)) (I (a1 + 5)) (I a1 6) x4 x5) ≠ 0) → (¬(z1 = true)) → L_X8_isFreedBy_37 d 144 a1 x2 x3 x4 (x5 + 1) (up2 (up2 J1 (145 + 1) ((colO (I (145 + 1)) x4).toNat) (p_or (p_and (J1 (145 + 1) (colO (I (145 + 1)) x4).toNat) (p_xor (chC (I (145 + 1)) (I (a1 + 5)) (I a1 6) x4 x5) (-1))) (p_and (J1 (145 + 1) x5.toNat) (chC (I (145 + 1)) (I (a1 + 5)) (I a1 6) x4 x5)))) (145 + 1) (x5.toNat) (p_or (p_and ((up2 J1 (145 + 1) ((colO (I (145 + 1)) x4).toNat) (p_or (p_and (J1 (145 + 1) (colO (I (145 + 1)) x4).toNat) (p_xor (chC (I (145 + 1)) (I (a1 + 5)) (I a1 6) x4 x5) (-1))) (p_and (J1 (145 + 1) x5.toNat) (chC (I (145 + 1)) (I (a1 + 5)) (I a1 6) x4 x5)))) (145 + 1) x5.toNat) (p_xor (chC (I (145 + 1)) (I (a1 + 5)) (I a1 6) x4 x5) (-1))) (p_and (J1 (145 + 1) (colO (I (145 + 1)) x4).toNat) (chC (I (145 + 1)) (I (a1 + 5)) (I a1 6) x4 x5)))) S v h1)
    (r1 : (x5 < 4) → ((chC (I (145 + 1)) (I (a1 + 5)) (I a1 6) x4 x5) ≠ 0) → (z1 = true) → 1 = v)
    (e1 : (x5 < 4) → ((chC (I (145 + 1)) (I (a1 + 5)) (I a1 6) x4 x5) ≠ 0) → (z1 = true) → ((up2 (up2 (up2 J1 (145 + 1) ((colO (I (145 + 1)) x4).toNat) (p_or (p_and (J1 (145 + 1) (colO (I (145 + 1)) x4).toNat) (p_xor (chC (I (145 + 1)) (I (a1 + 5)) (I a1 6) x4 x5) (-1))) (p_and (J1 (145 + 1) x5.toNat) (chC (I (145 + 1)) (I (a1 + 5)) (I a1 6) x4 x5)))) (145 + 1) (x5.toNat) (p_or (p_and ((up2 J1 (145 + 1) ((colO (I (145 + 1)) x4).toNat) (p_or (p_and (J1 (145 + 1) (colO (I (145 + 1)) x4).toNat) (p_xor (chC (I (145 + 1)) (I (a1 + 5)) (I a1 6) x4 x5) (-1))) (p_and (J1 (145 + 1) x5.toNat) (chC (I (145 + 1)) (I (a1 + 5)) (I a1 6) x4 x5)))) (145 + 1) x5.toNat) (p_xor (chC (I (145 + 1)) (I (a1 + 5)) (I a1 6) x4 x5) (-1))) (p_and (J1 (145 + 1) (colO (I (145 + 1)) x4).toNat) (chC (I (145 + 1)) (I (a1 + 5)) (I a1 6) x4 x5)))) 144 3 ((10 * x4) + x5)), S) = h1 := by intros; first | rfl | (exfalso; omega) | contradiction | (exfalso; simp_all; done))
    (v1 : (4 ≤ x5) → -2147483648 ≤ x4 + 1 ∧ x4 + 1 ≤ 2147483647 := by intros; first | assumption | omega | (split <;> omega))
    (v2 : (x5 < 4) → 0 ≤ I a1 6 ∧ I a1 6 ≤ 12 := by intros; first | assumption | omega | (split <;> omega))
    (v3 : (x5 < 4) → 0 ≤ x4 ∧ x4 < I a1 6 := by intros; first | assumption | omega | (split <;> omega))
    (v4 : (x5 < 4) → ∀ u i : Nat, (u : Int) < I a1 6 → bt (I (a1 + 5) u) i = true → (i : Int) < I a1 6 := by intros; first | assumption | omega | (split <;> omega))
    (v5 : (x5 < 4) → ((chC (I (145 + 1)) (I (a1 + 5)) (I a1 6) x4 x5) = 0) → -2147483648 ≤ x5 + 1 ∧ x5 + 1 ≤ 2147483647 := by intros; first | assumption | omega | (split <;> omega))
    (v6 : (x5 < 4) → ((chC (I (145 + 1)) (I (a1 + 5)) (I a1 6) x4 x5) ≠ 0) → 0 ≤ (colO (I (145 + 1)) x4) ∧ (colO (I (145 + 1)) x4) < (4 : Nat) := by intros; first | assumption | omega | (split <;> omega))
    (v7 : (x5 < 4) → ((chC (I (145 + 1)) (I (a1 + 5)) (I a1 6) x4 x5) ≠ 0) → 0 ≤ x5 ∧ x5 < (4 : Nat) := by intros; first | assumption | omega | (split <;> omega))
    (v8 : (x5 < 4) → ((chC (I (145 + 1)) (I (a1 + 5)) (I a1 6) x4 x5) ≠ 0) → -2147483648 ≤ x3 - 1 ∧ x3 - 1 ≤ 2147483647 := by intros; first | assumption | omega | (split <;> omega))
    (v9 : (x5 < 4) → ((chC (I (145 + 1)) (I (a1 + 5)) (I a1 6) x4 x5) ≠ 0) → (¬(z1 = true)) → -2147483648 ≤ x5 + 1 ∧ x5 + 1 ≤ 2147483647 := by intros; first | assumption | omega | (split <;> omega))
    (v10 : (x5 < 4) → ((chC (I (145 + 1)) (I (a1 + 5)) (I a1 6) x4 x5) ≠ 0) → (z1 = true) → -2147483648 ≤ 10 * x4 ∧ 10 * x4 ≤ 2147483647 := by intros; first | assumption | omega | (split <;> omega))
    (v11 : (x5 < 4) → ((chC (I (145 + 1)) (I (a1 + 5)) (I a1 6) x4 x5) ≠ 0) → (z1 = true) → -2147483648 ≤ (10 * x4) + x5 ∧ (10 * x4) + x5 ≤ 2147483647 := by intros; first | assumption | omega | (split <;> omega)) : L_X8_isFreedBy_37 d 144 a1 x2 x3 x4 x5 I S v h1 :=
  
  b_X8_isFreedBy_37  (fun (c1 : 4 ≤ x5) => 
    b_X8_isFreedBy_135 (v1 c1) ((k1 c1))) (fun (c2 : x5 < 4) => 
    b_X8_isFreedBy_43 (ly_X8_0 hl0) (c_X2_colourAt (ly_X8_p hl0)) (
    b_X8_isFreedBy_52 (ly_X8_0 hl0) (c_X2_chainOf (ly_X8_p hl0) hl1 (v2 c2) (v3 c2) (v4 c2)) (
    b_X8_isFreedBy_66  (fun (c3 : (chC (I (145 + 1)) (I (a1 + 5)) (I a1 6) x4 x5) = 0) => 
      b_X8_isFreedBy_129 (v5 c2 c3) ((k2 c2 c3))) (fun (c4 : (chC (I (145 + 1)) (I (a1 + 5)) (I a1 6) x4 x5) ≠ 0) => 
      b_X8_isFreedBy_73 (ly_X8_0 hl0) (c_X2_exchange (ly_X8_p hl0) (v6 c2 c4) (v7 c2 c4)) (
      b_X8_isFreedBy_86 (v8 c2 c4) (g1 c2 c4) (
      b_X8_isFreedBy_95 (ly_X8_0 hl0) (c_X2_exchange (ly_X8_p hl0) (v6 c2 c4) (v7 c2 c4)) (
      b_X8_isFreedBy_110  (fun c5' => have c5 : ¬(z1 = true) := b2f c5'; 
        b_X8_isFreedBy_129 (v9 c2 c4 c5) ((k3 c2 c4 c5))) (fun c6' => have c6 : z1 = true := b2t c6'; ev_ret2 (r1 c2 c4 c6) (e1 c2 c4 c6) (b_X8_isFreedBy_115 (v10 c2 c4 c6) (v11 c2 c4 c6))))))))))
abbrev L_X8_isWonByFirst_25 (d : Nat) (a0 : Nat) (a1 : Nat) (x2 : Int) (x3 : Int) (x4 : Int) (x5 : Int) (x6 : Int) (I : Nat → Nat → Int) (S : PS) (v : Int) (h1 : PM) : Prop := Ev (d + 2) mX8_isWonByFirst (25, [some (vR (some (18, 0, a0))), some (vR (some (11, 0, a1))), some (vI x2), some (vI x3), some (vI x4), some (vI x5), some (vI x6), none, none], [], (I, S)) (.inl (some (vI v)), h1)
abbrev L_X8_isWonByFirst_37 (d : Nat) (a0 : Nat) (a1 : Nat) (x2 : Int) (x3 : Int) (x4 : Int) (x5 : Int) (x6 : Int) (x7 : Int) (I : Nat → Nat → Int) (S : PS) (v : Int) (h1 : PM) : Prop := Ev (d + 2) mX8_isWonByFirst (37, [some (vR (some (18, 0, a0))), some (vR (some (11, 0, a1))), some (vI x2), some (vI x3), some (vI x4), some (vI x5), some (vI x6), some (vI x7), none], [], (I, S)) (.inl (some (vI v)), h1)
theorem w_X8_isWonByFirst_0 {d : Nat} {I : Nat → Nat → Int} {S : PS} {a1 : Nat} {x2 x3 : Int} {v : Int} {h1 : PM} (hl0 : LyX8 S) (hl1 : LyX0 S a1)
    (k1 : (0 < x3) → L_X8_isWonByFirst_25 d 144 a1 x2 x3 (if x2 % 2 = 0 then (1 : Int) else 0) 0 0 I S v h1)
    (r1 : (x3 ≤ 0) → 1 = v)
    (e1 : (x3 ≤ 0) → (I, S) = h1 := by intros; first | rfl | (exfalso; omega) | contradiction | (exfalso; simp_all; done))
    (v1 : (0 < x3) → (0 ≤ x2 ∧ x2 ≤ 2147483647) ∧ 0 < (2 : Int) ∧ (2 : Int) ≤ 2147483647 := by intros; first | assumption | omega | (split <;> omega)) : Ca (d + 2) mX8_isWonByFirst [vR (some (18, 0, 144)), vR (some (11, 0, a1)), vI x2, vI x3] (I, S) (.inl (some (vI v))) h1 :=
  Ca.of rfl rfl (
  b_X8_isWonByFirst_0  (fun (c1 : 0 < x3) => 
    have K4 : ∀ us0 : Int, us0 = (if x2 % 2 = 0 then (1 : Int) else 0) → Ev (d + 2) mX8_isWonByFirst (17, [some (vR (some (18, 0, 144))), some (vR (some (11, 0, a1))), some (vI x2), some (vI x3), none, none, none, none, none], [vI us0], (I, S)) (.inl (some (vI v)), h1) := fun us0 e_us0 => by subst e_us0; exact (
      b_X8_isWonByFirst_17  ((k1 c1)))
    
    b_X8_isWonByFirst_6 (v1 c1) (fun (c3 : x2 % 2 ≠ 0) => 
      b_X8_isWonByFirst_16  (K4 0 (if_neg c3).symm)) (fun (c4 : x2 % 2 = 0) => 
      b_X8_isWonByFirst_12  (K4 1 (if_pos c4).symm))) (fun (c2 : x3 ≤ 0) => ev_ret2 (r1 c2) (e1 c2) (b_X8_isWonByFirst_4 )))
theorem w_X8_isWonByFirst_25 {d : Nat} {I : Nat → Nat → Int} {S : PS} {a1 : Nat} {x2 x3 x4 x5 x6 : Int} {v : Int} {h1 : PM} (hl0 : LyX8 S) (hl1 : LyX0 S a1)
    (k1 : (x6 < I a1 6) → L_X8_isWonByFirst_37 d 144 a1 x2 x3 x4 x5 x6 0 I S v h1)
    (r1 : (I a1 6 ≤ x6) → (if (x5 ≠ 0) ∧ (x4 = 0) then (1 : Int) else 0) = v)
    (e1 : (I a1 6 ≤ x6) → (I, S) = h1 := by intros; first | rfl | (exfalso; omega) | contradiction | (exfalso; simp_all; done)) : L_X8_isWonByFirst_25 d 144 a1 x2 x3 x4 x5 x6 I S v h1 :=
  
  b_X8_isWonByFirst_25  (fun (c1 : I a1 6 ≤ x6) => 
    have K6 : ∀ us0 : Int, us0 = (if (x5 ≠ 0) ∧ (x4 = 0) then (1 : Int) else 0) → Ev (d + 2) mX8_isWonByFirst (156, [some (vR (some (18, 0, 144))), some (vR (some (11, 0, a1))), some (vI x2), some (vI x3), some (vI x4), some (vI x5), some (vI x6), none, none], [vI us0], (I, S)) (.inl (some (vI v)), h1) := fun us0 e_us0 => by subst e_us0; exact (ev_ret2 (r1 c1) (e1 c1) (b_X8_isWonByFirst_156 (ite01 _)))
    
    b_X8_isWonByFirst_141  (fun (c3 : x5 = 0) => 
      b_X8_isWonByFirst_155  (K6 0 (if_neg (fun q => (fun q => q c3) q.1)).symm)) (fun (c4 : x5 ≠ 0) => 
      b_X8_isWonByFirst_146  (fun (c5 : x4 ≠ 0) => 
        b_X8_isWonByFirst_155  (K6 0 (if_neg (fun q => c5 q.2)).symm)) (fun (c6 : x4 = 0) => 
        b_X8_isWonByFirst_151  (K6 1 (if_pos ⟨c4, c6⟩).symm)))) (fun (c2 : x6 < I a1 6) => 
    b_X8_isWonByFirst_34  ((k1 c2)))
theorem w_X8_isWonByFirst_37 {d : Nat} {I : Nat → Nat → Int} {S : PS} {a1 : Nat} {x2 x3 x4 x5 x6 x7 : Int} {J1 : Nat → Nat → Int} {z1 : Bool} {v : Int} {h1 : PM} (hl0 : LyX8 S) (hl1 : LyX0 S a1)
    (k1 : (4 ≤ x7) → L_X8_isWonByFirst_25 d 144 a1 x2 x3 x4 x5 (x6 + 1) I S v h1)
    (k2 : (x7 < 4) → (¬(((0 ≤ x7) ∧ (x7 < 4)) ∧ ((p_and (p_shr (p_or (p_or (p_or (I (145 + 1) 0) (I (145 + 1) 1)) (I (145 + 1) 2)) (I (145 + 1) 3)) x6) 1 = 0) ∧ (p_and (I (145 + 1) x7.toNat) (I (a1 + 5) x6.toNat) = 0)))) → L_X8_isWonByFirst_37 d 144 a1 x2 x3 x4 x5 x6 (x7 + 1) I S v h1)
    (g1 : (x7 < 4) → (((0 ≤ x7) ∧ (x7 < 4)) ∧ ((p_and (p_shr (p_or (p_or (p_or (I (145 + 1) 0) (I (145 + 1) 1)) (I (145 + 1) 2)) (I (145 + 1) 3)) x6) 1 = 0) ∧ (p_and (I (145 + 1) x7.toNat) (I (a1 + 5) x6.toNat) = 0))) → Ca (d + 1) mX8_isWonByFirst [vR (some (18, 0, 144)), vR (some (11, 0, a1)), vI (x2 + 1), vI (x3 - 1)] ((up2 I (145 + 1) (x7.toNat) (p_or (I (145 + 1) x7.toNat) (p_shl 1 x6))), S) (.inl (some (vI (if z1 = true then (1 : Int) else 0)))) (J1, S))
    (k3 : (x7 < 4) → (((0 ≤ x7) ∧ (x7 < 4)) ∧ ((p_and (p_shr (p_or (p_or (p_or (I (145 + 1) 0) (I (145 + 1) 1)) (I (145 + 1) 2)) (I (145 + 1) 3)) x6) 1 = 0) ∧ (p_and (I (145 + 1) x7.toNat) (I (a1 + 5) x6.toNat) = 0))) → ((if z1 = true then (1 : Int) else 0) ≠ x4) → L_X8_isWonByFirst_37 d 144 a1 x2 x3 x4 1 x6 (x7 + 1) (up2 J1 (145 + 1) (x7.toNat) (p_and (J1 (145 + 1) x7.toNat) (p_xor (p_shl 1 x6) (-1)))) S v h1)
    (r1 : (x7 < 4) → (((0 ≤ x7) ∧ (x7 < 4)) ∧ ((p_and (p_shr (p_or (p_or (p_or (I (145 + 1) 0) (I (145 + 1) 1)) (I (145 + 1) 2)) (I (145 + 1) 3)) x6) 1 = 0) ∧ (p_and (I (145 + 1) x7.toNat) (I (a1 + 5) x6.toNat) = 0))) → ((if z1 = true then (1 : Int) else 0) = x4) → (if z1 = true then (1 : Int) else 0) = v)
    (e1 : (x7 < 4) → (((0 ≤ x7) ∧ (x7 < 4)) ∧ ((p_and (p_shr (p_or (p_or (p_or (I (145 + 1) 0) (I (145 + 1) 1)) (I (145 + 1) 2)) (I (145 + 1) 3)) x6) 1 = 0) ∧ (p_and (I (145 + 1) x7.toNat) (I (a1 + 5) x6.toNat) = 0))) → ((if z1 = true then (1 : Int) else 0) = x4) → ((up2 (up2 J1 (145 + 1) (x7.toNat) (p_and (J1 (145 + 1) x7.toNat) (p_xor (p_shl 1 x6) (-1)))) 144 3 (if x2 ≠ 0 then ((up2 J1 (145 + 1) (x7.toNat) (p_and (J1 (145 + 1) x7.toNat) (p_xor (p_shl 1 x6) (-1)))) 144 3 : Int) else (10 * x6) + x7)), S) = h1 := by intros; first | rfl | (exfalso; omega) | contradiction | (exfalso; simp_all; done))
    (v1 : (4 ≤ x7) → -2147483648 ≤ x6 + 1 ∧ x6 + 1 ≤ 2147483647 := by intros; first | assumption | omega | (split <;> omega))
    (v2 : (x7 < 4) → ((0 ≤ x7) ∧ (x7 < 4)) → (p_and (p_shr (p_or (p_or (p_or (I (145 + 1) 0) (I (145 + 1) 1)) (I (145 + 1) 2)) (I (145 + 1) 3)) x6) 1 = 0) → 0 ≤ x7 ∧ x7 < (4 : Nat) := by intros; first | assumption | omega | (split <;> omega))
    (v3 : (x7 < 4) → ((0 ≤ x7) ∧ (x7 < 4)) → (p_and (p_shr (p_or (p_or (p_or (I (145 + 1) 0) (I (145 + 1) 1)) (I (145 + 1) 2)) (I (145 + 1) 3)) x6) 1 = 0) → 0 ≤ x6 ∧ x6 < (12 : Nat) := by intros; first | assumption | omega | (split <;> omega))
    (v4 : (x7 < 4) → (¬(((0 ≤ x7) ∧ (x7 < 4)) ∧ ((p_and (p_shr (p_or (p_or (p_or (I (145 + 1) 0) (I (145 + 1) 1)) (I (145 + 1) 2)) (I (145 + 1) 3)) x6) 1 = 0) ∧ (p_and (I (145 + 1) x7.toNat) (I (a1 + 5) x6.toNat) = 0)))) → -2147483648 ≤ x7 + 1 ∧ x7 + 1 ≤ 2147483647 := by intros; first | assumption | omega | (split <;> omega))
    (v5 : (x7 < 4) → (((0 ≤ x7) ∧ (x7 < 4)) ∧ ((p_and (p_shr (p_or (p_or (p_or (I (145 + 1) 0) (I (145 + 1) 1)) (I (145 + 1) 2)) (I (145 + 1) 3)) x6) 1 = 0) ∧ (p_and (I (145 + 1) x7.toNat) (I (a1 + 5) x6.toNat) = 0))) → 0 ≤ x7 ∧ x7 < 4 := by intros; first | assumption | omega | (split <;> omega))
    (v6 : (x7 < 4) → (((0 ≤ x7) ∧ (x7 < 4)) ∧ ((p_and (p_shr (p_or (p_or (p_or (I (145 + 1) 0) (I (145 + 1) 1)) (I (145 + 1) 2)) (I (145 + 1) 3)) x6) 1 = 0) ∧ (p_and (I (145 + 1) x7.toNat) (I (a1 + 5) x6.toNat) = 0))) → -2147483648 ≤ x2 + 1 ∧ x2 + 1 ≤ 2147483647 := by intros; first | assumption | omega | (split <;> omega))
    (v7 : (x7 < 4) → (((0 ≤ x7) ∧ (x7 < 4)) ∧ ((p_and (p_shr (p_or (p_or (p_or (I (145 + 1) 0) (I (145 + 1) 1)) (I (145 + 1) 2)) (I (145 + 1) 3)) x6) 1 = 0) ∧ (p_and (I (145 + 1) x7.toNat) (I (a1 + 5) x6.toNat) = 0))) → -2147483648 ≤ x3 - 1 ∧ x3 - 1 ≤ 2147483647 := by intros; first | assumption | omega | (split <;> omega))
    (v8 : (x7 < 4) → (((0 ≤ x7) ∧ (x7 < 4)) ∧ ((p_and (p_shr (p_or (p_or (p_or (I (145 + 1) 0) (I (145 + 1) 1)) (I (145 + 1) 2)) (I (145 + 1) 3)) x6) 1 = 0) ∧ (p_and (I (145 + 1) x7.toNat) (I (a1 + 5) x6.toNat) = 0))) → ((if z1 = true then (1 : Int) else 0) ≠ x4) → -2147483648 ≤ x7 + 1 ∧ x7 + 1 ≤ 2147483647 := by intros; first | assumption | omega | (split <;> omega))
    (v9 : (x7 < 4) → (((0 ≤ x7) ∧ (x7 < 4)) ∧ ((p_and (p_shr (p_or (p_or (p_or (I (145 + 1) 0) (I (145 + 1) 1)) (I (145 + 1) 2)) (I (145 + 1) 3)) x6) 1 = 0) ∧ (p_and (I (145 + 1) x7.toNat) (I (a1 + 5) x6.toNat) = 0))) → ((if z1 = true then (1 : Int) else 0) = x4) → (x2 = 0) → -2147483648 ≤ 10 * x6 ∧ 10 * x6 ≤ 2147483647 := by intros; first | assumption | omega | (split <;> omega))
    (v10 : (x7 < 4) → (((0 ≤ x7) ∧ (x7 < 4)) ∧ ((p_and (p_shr (p_or (p_or (p_or (I (145 + 1) 0) (I (145 + 1) 1)) (I (145 + 1) 2)) (I (145 + 1) 3)) x6) 1 = 0) ∧ (p_and (I (145 + 1) x7.toNat) (I (a1 + 5) x6.toNat) = 0))) → ((if z1 = true then (1 : Int) else 0) = x4) → (x2 = 0) → -2147483648 ≤ (10 * x6) + x7 ∧ (10 * x6) + x7 ≤ 2147483647 := by intros; first | assumption | omega | (split <;> omega)) : L_X8_isWonByFirst_37 d 144 a1 x2 x3 x4 x5 x6 x7 I S v h1 :=
  
  b_X8_isWonByFirst_37  (fun (c1 : 4 ≤ x7) => 
    b_X8_isWonByFirst_135 (v1 c1) ((k1 c1))) (fun (c2 : x7 < 4) => 
    b_X8_isWonByFirst_43 (ly_X8_0 hl0) (c_X2_mayPaint (ly_X8_p hl0) hl1 (v2 c2) (v3 c2)) (
    b_X8_isWonByFirst_55  (fun c3' => have c3 : ¬(((0 ≤ x7) ∧ (x7 < 4)) ∧ ((p_and (p_shr (p_or (p_or (p_or (I (145 + 1) 0) (I (145 + 1) 1)) (I (145 + 1) 2)) (I (145 + 1) 3)) x6) 1 = 0) ∧ (p_and (I (145 + 1) x7.toNat) (I (a1 + 5) x6.toNat) = 0))) := b2f c3'; 
      b_X8_isWonByFirst_129 (v4 c2 c3) ((k2 c2 c3))) (fun c4' => have c4 : ((0 ≤ x7) ∧ (x7 < 4)) ∧ ((p_and (p_shr (p_or (p_or (p_or (I (145 + 1) 0) (I (145 + 1) 1)) (I (145 + 1) 2)) (I (145 + 1) 3)) x6) 1 = 0) ∧ (p_and (I (145 + 1) x7.toNat) (I (a1 + 5) x6.toNat) = 0)) := b2t c4'; 
      b_X8_isWonByFirst_58 (ly_X8_0 hl0) (c_X2_put (ly_X8_p hl0) (v5 c2 c4)) (
      b_X8_isWonByFirst_72 (v6 c2 c4) (v7 c2 c4) (g1 c2 c4) (
      b_X8_isWonByFirst_83 (ly_X8_0 hl0) (c_X2_take (ly_X8_p hl0) (v5 c2 c4)) (
      b_X8_isWonByFirst_96  (fun (c5 : (if z1 = true then (1 : Int) else 0) ≠ x4) => 
        b_X8_isWonByFirst_129 (v8 c2 c4 c5) ((k3 c2 c4 c5))) (fun (c6 : (if z1 = true then (1 : Int) else 0) = x4) => 
        have K8 : ∀ us1 : Int, us1 = (if x2 ≠ 0 then ((up2 J1 (145 + 1) (x7.toNat) (p_and (J1 (145 + 1) x7.toNat) (p_xor (p_shl 1 x6) (-1)))) 144 3 : Int) else (10 * x6) + x7) → Ev (d + 2) mX8_isWonByFirst (123, [some (vR (some (18, 0, 144))), some (vR (some (11, 0, a1))), some (vI x2), some (vI x3), some (vI x4), some (vI 1), some (vI x6), some (vI x7), some (vI (if z1 = true then (1 : Int) else 0))], [vI us1, vR (some (18, 0, 144))], ((up2 J1 (145 + 1) (x7.toNat) (p_and (J1 (145 + 1) x7.toNat) (p_xor (p_shl 1 x6) (-1)))), S)) (.inl (some (vI v)), h1) := fun us1 e_us1 => by subst e_us1; exact (ev_ret2 (r1 c2 c4 c6) (e1 c2 c4 c6) (b_X8_isWonByFirst_123 (ite01 _)))
        
        b_X8_isWonByFirst_103  (fun (c7 : x2 ≠ 0) => 
          b_X8_isWonByFirst_119  (K8 ((up2 J1 (145 + 1) (x7.toNat) (p_and (J1 (145 + 1) x7.toNat) (p_xor (p_shl 1 x6) (-1)))) 144 3) ((if_pos c7).symm))) (fun (c8 : x2 = 0) => 
          b_X8_isWonByFirst_108 (v9 c2 c4 c6 c8) (v10 c2 c4 c6 c8) (K8 ((10 * x6) + x7) ((if_neg (fun q => q c8)).symm))))))))))
abbrev L_X6_leadsBelowBy_63 (d : Nat) (a0 : Nat) (x1 : Int) (n2 : Nat) (a2 : Nat) (x3 : Int) (x4 : Int) (n5 : Nat) (a5 : Nat) (x6 : Int) (x7 : Int) (I : Nat → Nat → Int) (S : PS) (v : Int) (h1 : PM) : Prop := Ev d mX6_leadsBelowBy (63, [some (vR (some (16, 0, a0))), some (vI x1), some (vR (some (1, n2, a2))), some (vI x3), some (vI x4), some (vR (some (5, n5, a5))), some (vI x6), some (vI x7), none, none, none], [], (I, S)) (.inl (some (vI v)), h1)
abbrev L_X6_leadsBelowBy_81 (d : Nat) (a0 : Nat) (x1 : Int) (n2 : Nat) (a2 : Nat) (x3 : Int) (x4 : Int) (n5 : Nat) (a5 : Nat) (x6 : Int) (x7 : Int) (x8 : Int) (x9 : Int) (I : Nat → Nat → Int) (S : PS) (v : Int) (h1 : PM) : Prop := Ev d mX6_leadsBelowBy (81, [some (vR (some (16, 0, a0))), some (vI x1), some (vR (some (1, n2, a2))), some (vI x3), some (vI x4), some (vR (some (5, n5, a5))), some (vI x6), some (vI x7), some (vI x8), some (vI x9), none], [], (I, S)) (.inl (some (vI v)), h1)
theorem w_X6_leadsBelowBy_0 {d : Nat} {I : Nat → Nat → Int} {S : PS} {a0 n2 a2 : Nat} {x1 x3 : Int} {v : Int} {h1 : PM} (hl0 : LyX6 S a0)
    (k1 : L_X6_leadsBelowBy_63 d a0 x1 n2 a2 x3 (I (a0 + 3) x1.toNat) (if 2 < I (a0 + 3) x1.toNat then (if 4 < I (a0 + 3) x1.toNat then 20 else 4) else 1) (if 2 < I (a0 + 3) x1.toNat then (if 4 < I (a0 + 3) x1.toNat then 3 else 2) else 1) (if 2 < I (a0 + 3) x1.toNat then ((if 4 < I (a0 + 3) x1.toNat then (4 : Int) else 2) : Int) else 1) 0 I S v h1)
    (v1 : 0 ≤ x1 ∧ x1 < ((3 * rc S a0) : Nat) := by intros; first | assumption | omega | (split <;> omega)) : Ca d mX6_leadsBelowBy [vR (some (16, 0, a0)), vI x1, vR (some (1, n2, a2)), vI x3] (I, S) (.inl (some (vI v))) h1 :=
  Ca.of rfl rfl (
  have K4 : ∀ us0n : Nat, us0n = (if 2 < I (a0 + 3) x1.toNat then (if 4 < I (a0 + 3) x1.toNat then 20 else 4) else 1) → ∀ us0a : Nat, us0a = (if 2 < I (a0 + 3) x1.toNat then (if 4 < I (a0 + 3) x1.toNat then 3 else 2) else 1) → Ev d mX6_leadsBelowBy (35, [some (vR (some (16, 0, a0))), some (vI x1), some (vR (some (1, n2, a2))), some (vI x3), some (vI (I (a0 + 3) x1.toNat)), none, none, none, none, none, none], [vR (some (5, us0n, us0a))], (I, S)) (.inl (some (vI v)), h1) := fun us0n e_us0n us0a e_us0a => by subst e_us0n; exact by subst e_us0a; exact (
    have K9 : ∀ us0 : Int, us0 = (if 2 < I (a0 + 3) x1.toNat then ((if 4 < I (a0 + 3) x1.toNat then (4 : Int) else 2) : Int) else 1) → Ev d mX6_leadsBelowBy (58, [some (vR (some (16, 0, a0))), some (vI x1), some (vR (some (1, n2, a2))), some (vI x3), some (vI (I (a0 + 3) x1.toNat)), some (vR (some (5, (if 2 < I (a0 + 3) x1.toNat then (if 4 < I (a0 + 3) x1.toNat then 20 else 4) else 1), (if 2 < I (a0 + 3) x1.toNat then (if 4 < I (a0 + 3) x1.toNat then 3 else 2) else 1)))), none, none, none, none, none], [vI us0], (I, S)) (.inl (some (vI v)), h1) := fun us0 e_us0 => by subst e_us0; exact (
      b_X6_leadsBelowBy_58  (k1))
    
    b_X6_leadsBelowBy_35  (fun (c6 : 2 < I (a0 + 3) x1.toNat) => 
      b_X6_leadsBelowBy_47  (fun (c8 : 4 < I (a0 + 3) x1.toNat) => 
        b_X6_leadsBelowBy_57  (K9 4 ((if_pos c8).symm.trans (if_pos c6).symm))) (fun (c9 : I (a0 + 3) x1.toNat ≤ 4) => 
        b_X6_leadsBelowBy_53  (K9 2 ((if_neg (Int.not_lt.mpr c9)).symm.trans (if_pos c6).symm)))) (fun (c7 : I (a0 + 3) x1.toNat ≤ 2) => 
      b_X6_leadsBelowBy_43  (K9 1 ((if_neg (Int.not_lt.mpr c7)).symm))))
  
  b_X6_leadsBelowBy_0 (ly_X6_4 hl0) v1 (fun (c1 : 2 < I (a0 + 3) x1.toNat) => 
    b_X6_leadsBelowBy_20  (fun (c3 : 4 < I (a0 + 3) x1.toNat) => 
      b_X6_leadsBelowBy_32  (K4 20 ((if_pos c3).symm.trans (if_pos c1).symm) 3 ((if_pos c3).symm.trans (if_pos c1).symm))) (fun (c4 : I (a0 + 3) x1.toNat ≤ 4) => 
      b_X6_leadsBelowBy_26  (K4 4 ((if_neg (Int.not_lt.mpr c4)).symm.trans (if_pos c1).symm) 2 ((if_neg (Int.not_lt.mpr c4)).symm.trans (if_pos c1).symm)))) (fun (c2 : I (a0 + 3) x1.toNat ≤ 2) => 
    b_X6_leadsBelowBy_14  (K4 1 ((if_neg (Int.not_lt.mpr c2)).symm) 1 ((if_neg (Int.not_lt.mpr c2)).symm))))
theorem w_X6_leadsBelowBy_63 {d : Nat} {I : Nat → Nat → Int} {S : PS} {a0 n2 a2 n5 a5 : Nat} {x1 x3 x4 x6 x7 : Int} {v : Int} {h1 : PM} (hl0 : LyX6 S a0)
    (k1 : (x7 + x6 ≤ (n5 : Int)) → L_X6_leadsBelowBy_81 d a0 x1 n2 a2 x3 x4 n5 a5 x6 x7 0 x7 I S v h1)
    (r1 : ((n5 : Int) < x7 + x6) → 1 = v)
    (e1 : ((n5 : Int) < x7 + x6) → (I, S) = h1 := by intros; first | rfl | (exfalso; omega) | contradiction | (exfalso; simp_all; done))
    (v1 : -2147483648 ≤ x7 + x6 ∧ x7 + x6 ≤ 2147483647 := by intros; first | assumption | omega | (split <;> omega))
    (v2 : n5 ≤ 100000 := by intros; first | assumption | omega | (split <;> omega)) : L_X6_leadsBelowBy_63 d a0 x1 n2 a2 x3 x4 n5 a5 x6 x7 I S v h1 :=
  
  b_X6_leadsBelowBy_63 v1 v2 (fun (c1 : (n5 : Int) < x7 + x6) => ev_ret2 (r1 c1) (e1 c1) (b_X6_leadsBelowBy_163 )) (fun (c2 : x7 + x6 ≤ (n5 : Int)) => 
    b_X6_leadsBelowBy_74  ((k1 c2)))
theorem w_X6_leadsBelowBy_81 {d : Nat} {I : Nat → Nat → Int} {S : PS} {a0 n2 a2 n5 a5 : Nat} {x1 x3 x4 x6 x7 x8 x9 : Int} {v : Int} {h1 : PM} (hl0 : LyX6 S a0)
    (k1 : (x7 + x6 ≤ x9) → (x8 ≠ 0) → L_X6_leadsBelowBy_63 d a0 x1 n2 a2 x3 x4 n5 a5 x6 (x7 + x6) I S v h1)
    (k2 : (x9 < x7 + x6) → (x8 ≠ 0) → (x8 ≠ 0) → L_X6_leadsBelowBy_63 d a0 x1 n2 a2 x3 x4 n5 a5 x6 (x7 + x6) I S v h1)
    (k3 : (x9 < x7 + x6) → (x8 = 0) → L_X6_leadsBelowBy_81 d a0 x1 n2 a2 x3 x4 n5 a5 x6 x7 (if (0 ≤ I (a0 + 4) ((x1 * 16) + (I a5 x9.toNat)).toNat) ∧ ((0 ≤ I a2 (I (a0 + 4) ((x1 * 16) + (I a5 x9.toNat)).toNat).toNat) ∧ (I a2 (I (a0 + 4) ((x1 * 16) + (I a5 x9.toNat)).toNat).toNat < x3)) then (1 : Int) else 0) (x9 + 1) I S v h1)
    (r1 : (x7 + x6 ≤ x9) → (x8 = 0) → 0 = v)
    (e1 : (x7 + x6 ≤ x9) → (x8 = 0) → (I, S) = h1 := by intros; first | rfl | (exfalso; omega) | contradiction | (exfalso; simp_all; done))
    (r2 : (x9 < x7 + x6) → (x8 ≠ 0) → (x8 = 0) → 0 = v)
    (e2 : (x9 < x7 + x6) → (x8 ≠ 0) → (x8 = 0) → (I, S) = h1 := by intros; first | rfl | (exfalso; omega) | contradiction | (exfalso; simp_all; done))
    (v1 : -2147483648 ≤ x7 + x6 ∧ x7 + x6 ≤ 2147483647 := by intros; first | assumption | omega | (split <;> omega))
    (v2 : (x9 < x7 + x6) → (x8 = 0) → -2147483648 ≤ x1 * 16 ∧ x1 * 16 ≤ 2147483647 := by intros; first | assumption | omega | (split <;> omega))
    (v3 : (x9 < x7 + x6) → (x8 = 0) → 0 ≤ x9 ∧ x9 < (n5 : Nat) := by intros; first | assumption | omega | (split <;> omega))
    (v4 : (x9 < x7 + x6) → (x8 = 0) → -2147483648 ≤ (x1 * 16) + (I a5 x9.toNat) ∧ (x1 * 16) + (I a5 x9.toNat) ≤ 2147483647 := by intros; first | assumption | omega | (split <;> omega))
    (v5 : (x9 < x7 + x6) → (x8 = 0) → 0 ≤ (x1 * 16) + (I a5 x9.toNat) ∧ (x1 * 16) + (I a5 x9.toNat) < ((48 * rc S a0) : Nat) := by intros; first | assumption | omega | (split <;> omega))
    (v6 : (x9 < x7 + x6) → (x8 = 0) → (0 ≤ I (a0 + 4) ((x1 * 16) + (I a5 x9.toNat)).toNat) → 0 ≤ I (a0 + 4) ((x1 * 16) + (I a5 x9.toNat)).toNat ∧ I (a0 + 4) ((x1 * 16) + (I a5 x9.toNat)).toNat < (n2 : Nat) := by intros; first | assumption | omega | (split <;> omega))
    (v7 : (x9 < x7 + x6) → (x8 = 0) → -2147483648 ≤ x9 + 1 ∧ x9 + 1 ≤ 2147483647 := by intros; first | assumption | omega | (split <;> omega)) : L_X6_leadsBelowBy_81 d a0 x1 n2 a2 x3 x4 n5 a5 x6 x7 x8 x9 I S v h1 :=
  
  b_X6_leadsBelowBy_81 v1 (fun (c1 : x7 + x6 ≤ x9) => 
    b_X6_leadsBelowBy_146  (fun (c3 : x8 ≠ 0) => 
      b_X6_leadsBelowBy_153 v1 ((k1 c1 c3))) (fun (c4 : x8 = 0) => ev_ret2 (r1 c1 c4) (e1 c1 c4) (b_X6_leadsBelowBy_151 ))) (fun (c2 : x9 < x7 + x6) => 
    b_X6_leadsBelowBy_91  (fun (c5 : x8 ≠ 0) => 
      b_X6_leadsBelowBy_146  (fun (c7 : x8 ≠ 0) => 
        b_X6_leadsBelowBy_153 v1 ((k2 c2 c5 c7))) (fun (c8 : x8 = 0) => ev_ret2 (r2 c2 c5 c8) (e2 c2 c5 c8) (b_X6_leadsBelowBy_151 ))) (fun (c6 : x8 = 0) => 
      have K14 : ∀ us0 : Int, us0 = (if (0 ≤ I (a0 + 4) ((x1 * 16) + (I a5 x9.toNat)).toNat) ∧ ((0 ≤ I a2 (I (a0 + 4) ((x1 * 16) + (I a5 x9.toNat)).toNat).toNat) ∧ (I a2 (I (a0 + 4) ((x1 * 16) + (I a5 x9.toNat)).toNat).toNat < x3)) then (1 : Int) else 0) → Ev d mX6_leadsBelowBy (138, [some (vR (some (16, 0, a0))), some (vI x1), some (vR (some (1, n2, a2))), some (vI x3), some (vI x4), some (vR (some (5, n5, a5))), some (vI x6), some (vI x7), some (vI x8), some (vI x9), some (vI (I (a0 + 4) ((x1 * 16) + (I a5 x9.toNat)).toNat))], [vI us0], (I, S)) (.inl (some (vI v)), h1) := fun us0 e_us0 => by subst e_us0; exact (
        b_X6_leadsBelowBy_138 (v7 c2 c6) ((k3 c2 c6)))
      
      b_X6_leadsBelowBy_96 (ly_X6_5 hl0) (v2 c2 c6) (v3 c2 c6) (v4 c2 c6) (v5 c2 c6) (fun (c9 : I (a0 + 4) ((x1 * 16) + (I a5 x9.toNat)).toNat < 0) => 
        b_X6_leadsBelowBy_137  (K14 0 (if_neg (fun q => (Int.not_le.mpr c9) q.1)).symm)) (fun (c10 : 0 ≤ I (a0 + 4) ((x1 * 16) + (I a5 x9.toNat)).toNat) => 
        b_X6_leadsBelowBy_118 (v6 c2 c6 c10) (fun (c11 : I a2 (I (a0 + 4) ((x1 * 16) + (I a5 x9.toNat)).toNat).toNat < 0) => 
          b_X6_leadsBelowBy_137  (K14 0 (if_neg (fun q => (fun q => (Int.not_le.mpr c11) q.1) q.2)).symm)) (fun (c12 : 0 ≤ I a2 (I (a0 + 4) ((x1 * 16) + (I a5 x9.toNat)).toNat).toNat) => 
          b_X6_leadsBelowBy_125 (v6 c2 c6 c10) (fun (c13 : x3 ≤ I a2 (I (a0 + 4) ((x1 * 16) + (I a5 x9.toNat)).toNat).toNat) => 
            b_X6_leadsBelowBy_137  (K14 0 (if_neg (fun q => (fun q => (Int.not_lt.mpr c13) q.2) q.2)).symm)) (fun (c14 : I a2 (I (a0 + 4) ((x1 * 16) + (I a5 x9.toNat)).toNat).toNat < x3) => 
            b_X6_leadsBelowBy_133  (K14 1 (if_pos ⟨c10, ⟨c12, c14⟩⟩).symm))))))
abbrev L_X11_openSpots_5 (d : Nat) (a0 : Nat) (x1 : Int) (x2 : Int) (x3 : Int) (x4 : Int) (I : Nat → Nat → Int) (S : PS) (v : Int) (h1 : PM) : Prop := Ev (d + 4) mX11_openSpots (5, [some (vR (some (21, 0, a0))), some (vI x1), some (vI x2), some (vI x3), some (vI x4)], [], (I, S)) (.inl (some (vI v)), h1)
theorem w_X11_openSpots_0 {d : Nat} {I : Nat → Nat → Int} {S : PS} {x1 x2 : Int} {T U : Nat} {v : Int} {h1 : PM} (hl0 : LyX11 S T U)
    (k1 : L_X11_openSpots_5 d 31 x1 x2 x1 0 I S v h1) : Ca (d + 4) mX11_openSpots [vR (some (21, 0, 31)), vI x1, vI x2] (I, S) (.inl (some (vI v))) h1 :=
  Ca.of rfl rfl (
  b_X11_openSpots_0  (k1))
theorem w_X11_openSpots_5 {d : Nat} {I : Nat → Nat → Int} {S : PS} {x1 x2 x3 x4 : Int} {T U : Nat} {v : Int} {h1 : PM} (hl0 : LyX11 S T U)
    (k1 : (x4 < I T 6) → L_X11_openSpots_5 d 31 x1 x2 (if p_and (hoC (roI I T 152 x4) T 152 ((roI I T 152 x4) (T + 4) x4.toNat) ((roI I T 152 x4) T 1).toNat) x2 = 0 then (x3 : Int) else p_and x3 (p_xor (p_shl 1 x4) (-1))) (x4 + 1) (roI I T 152 x4) S v h1)
    (r1 : (I T 6 ≤ x4) → x3 = v)
    (e1 : (I T 6 ≤ x4) → (I, S) = h1 := by intros; first | rfl | (exfalso; omega) | contradiction | (exfalso; simp_all; done))
    (v1 : (x4 < I T 6) → 0 ≤ x4 ∧ x4 < 12 := by intros; first | assumption | omega | (split <;> omega))
    (v2 : (x4 < I T 6) → 0 ≤ I (T + 4) x4.toNat ∧ I (T + 4) x4.toNat ≤ 9 := by intros; first | assumption | omega | (split <;> omega))
    (v3 : (x4 < I T 6) → ∀ k : Nat, (k : Int) < I (T + 4) x4.toNat → 0 ≤ I (T + 6) (x4 * 9 + (k : Int)).toNat ∧ I (T + 6) (x4 * 9 + (k : Int)).toNat < 12 := by intros; first | assumption | omega | (split <;> omega))
    (v4 : (x4 < I T 6) → T + 4 ≠ 152 := by intros; first | assumption | omega | (split <;> omega))
    (v5 : (x4 < I T 6) → T + 6 ≠ 152 := by intros; first | assumption | omega | (split <;> omega))
    (v6 : (x4 < I T 6) → 0 ≤ x4 ∧ x4 < (12 : Nat) := by intros; first | assumption | omega | (split <;> omega))
    (v7 : (x4 < I T 6) → 1 ≤ ((roI I T 152 x4) (T + 4) x4.toNat) ∧ ((roI I T 152 x4) (T + 4) x4.toNat) ≤ 9 := by intros; first | assumption | omega | (split <;> omega))
    (v8 : (x4 < I T 6) → 0 ≤ (roI I T 152 x4) T 1 ∧ (roI I T 152 x4) T 1 ≤ 4 := by intros; first | assumption | omega | (split <;> omega))
    (v9 : (x4 < I T 6) → ∀ p : Nat, (p : Int) < (roI I T 152 x4) T 1 → 0 ≤ (roI I T 152 x4) (T + 7 + 9 * p) 1 ∧ (roI I T 152 x4) (T + 7 + 9 * p) 1 ≤ 7 := by intros; first | assumption | omega | (split <;> omega))
    (v10 : (x4 < I T 6) → -2147483648 ≤ x4 + 1 ∧ x4 + 1 ≤ 2147483647 := by intros; first | assumption | omega | (split <;> omega)) : L_X11_openSpots_5 d 31 x1 x2 x3 x4 I S v h1 :=
  
  b_X11_openSpots_5 (ly_X11_2 hl0) (fun (c1 : I T 6 ≤ x4) => ev_ret2 (r1 c1) (e1 c1) (b_X11_openSpots_43 )) (fun (c2 : x4 < I T 6) => 
    b_X11_openSpots_17  (c_X11_piecesHeldBy hl0 (v1 c2) (v2 c2) (v3 c2) (v4 c2) (v5 c2) (v6 c2) (v7 c2) (v8 c2) (v9 c2)) (
    have K4 : ∀ u3 : Int, u3 = (if p_and (hoC (roI I T 152 x4) T 152 ((roI I T 152 x4) (T + 4) x4.toNat) ((roI I T 152 x4) T 1).toNat) x2 = 0 then (x3 : Int) else p_and x3 (p_xor (p_shl 1 x4) (-1))) → Ev (d + 4) mX11_openSpots (37, [some (vR (some (21, 0, 31))), some (vI x1), some (vI x2), some (vI u3), some (vI x4)], [], ((roI I T 152 x4), S)) (.inl (some (vI v)), h1) := fun u3 e_u3 => by subst e_u3; exact (
      b_X11_openSpots_37 (v10 c2) ((k1 c2)))
    
    b_X11_openSpots_23  (fun (c3 : p_and (hoC (roI I T 152 x4) T 152 ((roI I T 152 x4) (T + 4) x4.toNat) ((roI I T 152 x4) T 1).toNat) x2 = 0) => K4 x3 ((if_pos c3).symm)) (fun (c4 : p_and (hoC (roI I T 152 x4) T 152 ((roI I T 152 x4) (T + 4) x4.toNat) ((roI I T 152 x4) T 1).toNat) x2 ≠ 0) => 
      b_X11_openSpots_28  (K4 (p_and x3 (p_xor (p_shl 1 x4) (-1))) ((if_neg c4).symm)))))
abbrev L_X11_findLacks_2 (d : Nat) (a0 : Nat) (x1 : Int) (I : Nat → Nat → Int) (S : PS) (h1 : PM) : Prop := Ev (d + 5) mX11_findLacks (2, [some (vR (some (21, 0, a0))), some (vI x1)], [], (I, S)) (.inl none, h1)
theorem w_X11_findLacks_0 {d : Nat} {I : Nat → Nat → Int} {S : PS} {T U : Nat} {h1 : PM} (hl0 : LyX11 S T U)
    (k1 : L_X11_findLacks_2 d 31 0 I S h1) : Ca (d + 5) mX11_findLacks [vR (some (21, 0, 31))] (I, S) (.inl none) h1 :=
  Ca.of rfl rfl (
  b_X11_findLacks_0  (k1))
theorem w_X11_findLacks_2 {d : Nat} {I : Nat → Nat → Int} {S : PS} {x1 : Int} {T U : Nat} {h1 : PM} (hl0 : LyX11 S T U)
    (k1 : (x1 < I 126 6) → L_X11_findLacks_2 d 31 (x1 + 1) (up2 (roI I T 152 (I 133 x1.toNat)) 153 (x1.toNat) (I 134 x1.toNat - (ccs I T (I 133 x1.toNat)))) S h1)
    (e1 : (I 126 6 ≤ x1) → (I, S) = h1 := by intros; first | rfl | (exfalso; omega) | contradiction | (exfalso; simp_all; done))
    (v1 : (x1 < I 126 6) → 0 ≤ x1 ∧ x1 < (8 : Nat) := by intros; first | assumption | omega | (split <;> omega))
    (v2 : (x1 < I 126 6) → T = 34 ∨ T = 77 := by intros; first | assumption | omega | (split <;> omega))
    (v3 : (x1 < I 126 6) → cSp I T := by intros; first | assumption | omega | (split <;> omega))
    (v4 : (x1 < I 126 6) → cRl I T := by intros; first | assumption | omega | (split <;> omega))
    (v5 : (x1 < I 126 6) → 0 ≤ (I 133 x1.toNat) ∧ (I 133 x1.toNat) < I T 6 := by intros; first | assumption | omega | (split <;> omega))
    (v6 : (x1 < I 126 6) → -2147483648 ≤ I 134 x1.toNat - (ccs I T (I 133 x1.toNat)) ∧ I 134 x1.toNat - (ccs I T (I 133 x1.toNat)) ≤ 2147483647 := by intros; first | assumption | omega | (split <;> omega))
    (v7 : (x1 < I 126 6) → -2147483648 ≤ x1 + 1 ∧ x1 + 1 ≤ 2147483647 := by intros; first | assumption | omega | (split <;> omega)) : L_X11_findLacks_2 d 31 x1 I S h1 :=
  
  b_X11_findLacks_2 (ly_X11_6 hl0) (fun (c1 : I 126 6 ≤ x1) => ev_retV (e1 c1) (b_X11_findLacks_48 )) (fun (c2 : x1 < I 126 6) => 
    b_X11_findLacks_13 (ly_X11_12 hl0) (ly_X11_6 hl0) (ly_X9_8 (ly_X11_s hl0)) (v1 c2) (ly_X9_7 (ly_X11_s hl0)) (v1 c2) (k_X11_spotCharge hl0 (v2 c2) (v3 c2) (v4 c2) (v5 c2)) (
    b_X11_findLacks_40 (v6 c2) (v1 c2) (v7 c2) ((k1 c2))))
abbrev L_X11_findNets_2 (d : Nat) (a0 : Nat) (x1 : Int) (x2 : Int) (I : Nat → Nat → Int) (S : PS) (h1 : PM) : Prop := Ev (d + 3) mX11_findNets (2, [some (vR (some (21, 0, a0))), some (vI x1), some (vI x2), none], [], (I, S)) (.inl none, h1)
theorem w_X11_findNets_0 {d : Nat} {I : Nat → Nat → Int} {S : PS} {x1 : Int} {T U : Nat} {h1 : PM} (hl0 : LyX11 S T U)
    (k1 : L_X11_findNets_2 d 31 x1 0 I S h1) : Ca (d + 3) mX11_findNets [vR (some (21, 0, 31)), vI x1] (I, S) (.inl none) h1 :=
  Ca.of rfl rfl (
  b_X11_findNets_0  (k1))
theorem w_X11_findNets_2 {d : Nat} {I : Nat → Nat → Int} {S : PS} {x1 x2 : Int} {T U : Nat} {h1 : PM} (hl0 : LyX11 S T U)
    (k1 : (x2 < I 126 6) → L_X11_findNets_2 d 31 x1 (x2 + 1) (up2 (roI I T 152 (I 133 x2.toNat)) 154 (x2.toNat) (ntC (roI I T 152 (I 133 x2.toNat)) (T + 2) 152 x1 ((roI I T 152 (I 133 x2.toNat)) (T + 4) (I 133 x2.toNat).toNat) ((roI I T 152 (I 133 x2.toNat)) (T + 4) (I 133 x2.toNat).toNat).toNat)) S h1)
    (e1 : (I 126 6 ≤ x2) → (I, S) = h1 := by intros; first | rfl | (exfalso; omega) | contradiction | (exfalso; simp_all; done))
    (v1 : (x2 < I 126 6) → 0 ≤ x2 ∧ x2 < (8 : Nat) := by intros; first | assumption | omega | (split <;> omega))
    (v2 : (x2 < I 126 6) → 0 ≤ (I 133 x2.toNat) ∧ (I 133 x2.toNat) < 12 := by intros; first | assumption | omega | (split <;> omega))
    (v3 : (x2 < I 126 6) → 0 ≤ I (T + 4) (I 133 x2.toNat).toNat ∧ I (T + 4) (I 133 x2.toNat).toNat ≤ 9 := by intros; first | assumption | omega | (split <;> omega))
    (v4 : (x2 < I 126 6) → ∀ k : Nat, (k : Int) < I (T + 4) (I 133 x2.toNat).toNat → 0 ≤ I (T + 6) ((I 133 x2.toNat) * 9 + (k : Int)).toNat ∧ I (T + 6) ((I 133 x2.toNat) * 9 + (k : Int)).toNat < 12 := by intros; first | assumption | omega | (split <;> omega))
    (v5 : (x2 < I 126 6) → T + 4 ≠ 152 := by intros; first | assumption | omega | (split <;> omega))
    (v6 : (x2 < I 126 6) → T + 6 ≠ 152 := by intros; first | assumption | omega | (split <;> omega))
    (v7 : (x2 < I 126 6) → 0 ≤ I 133 x2.toNat ∧ I 133 x2.toNat < (12 : Nat) := by intros; first | assumption | omega | (split <;> omega))
    (v8 : (x2 < I 126 6) → 0 ≤ x1 ∧ x1 < 6 := by intros; first | assumption | omega | (split <;> omega))
    (v9 : (x2 < I 126 6) → 0 ≤ ((roI I T 152 (I 133 x2.toNat)) (T + 4) (I 133 x2.toNat).toNat) ∧ ((roI I T 152 (I 133 x2.toNat)) (T + 4) (I 133 x2.toNat).toNat) ≤ 9 := by intros; first | assumption | omega | (split <;> omega))
    (v10 : (x2 < I 126 6) → -2147483648 ≤ x2 + 1 ∧ x2 + 1 ≤ 2147483647 := by intros; first | assumption | omega | (split <;> omega)) : L_X11_findNets_2 d 31 x1 x2 I S h1 :=
  
  b_X11_findNets_2 (ly_X11_6 hl0) (fun (c1 : I 126 6 ≤ x2) => ev_retV (e1 c1) (b_X11_findNets_71 )) (fun (c2 : x2 < I 126 6) => 
    b_X11_findNets_13 (ly_X11_6 hl0) (ly_X9_7 (ly_X11_s hl0)) (v1 c2) (ly_X11_2 hl0) (ly_X11_11 hl0) (c_X0_rowOf (ly_X11_c hl0) (v2 c2) (by first | decide | exact (show 9 = 9 from by decide)) (v3 c2) (v4 c2) (v5 c2) (v6 c2)) (
    b_X11_findNets_35 (ly_X11_13 hl0) (ly_X11_2 hl0) (ly_X0_2 (ly_X11_c hl0)) (ly_X0_3 (ly_X11_c hl0)) (v7 c2) (ly_X11_11 hl0) (c_X7_net (ly_X0_r (ly_X11_c hl0)) (v8 c2) (v9 c2) (by decide)) (
    b_X11_findNets_64 (v1 c2) (v10 c2) ((k1 c2)))))
abbrev L_X12_openOnes_4 (d : Nat) (a0 : Nat) (x1 : Int) (x2 : Int) (I : Nat → Nat → Int) (S : PS) (v : Int) (h1 : PM) : Prop := Ev (d + 5) mX12_openOnes (4, [some (vR (some (22, 0, a0))), some (vI x1), some (vI x2)], [], (I, S)) (.inl (some (vI v)), h1)
theorem w_X12_openOnes_0 {d : Nat} {I : Nat → Nat → Int} {S : PS} {v : Int} {h1 : PM} (hl0 : LyX12 S)
    (k1 : L_X12_openOnes_4 d 156 0 0 I S v h1) : Ca (d + 5) mX12_openOnes [vR (some (22, 0, 156))] (I, S) (.inl (some (vI v))) h1 :=
  Ca.of rfl rfl (
  b_X12_openOnes_0  (k1))
theorem w_X12_openOnes_4 {d : Nat} {I : Nat → Nat → Int} {S : PS} {x1 x2 : Int} {v : Int} {h1 : PM} (hl0 : LyX12 S)
    (k1 : (x2 < I 156 15) → (0 < (mcs I 0 x2)) → L_X12_openOnes_4 d 156 (p_or x1 (if ¬(cvM (lnI (lnI I x2) x2) (I 161 (10 * x2).toNat) = true) then (p_shl 1 x2 : Int) else 0)) (x2 + 1) (lnI (lnI I x2) x2) S v h1)
    (k2 : (x2 < I 156 15) → ((mcs I 0 x2) ≤ 0) → L_X12_openOnes_4 d 156 x1 (x2 + 1) (lnI I x2) S v h1)
    (r1 : (I 156 15 ≤ x2) → x1 = v)
    (e1 : (I 156 15 ≤ x2) → (I, S) = h1 := by intros; first | rfl | (exfalso; omega) | contradiction | (exfalso; simp_all; done))
    (v1 : (x2 < I 156 15) → mSp I := by intros; first | assumption | omega | (split <;> omega))
    (v2 : (x2 < I 156 15) → mRl I (0 : Int) := by intros; first | assumption | omega | (split <;> omega))
    (v3 : (x2 < I 156 15) → 0 ≤ x2 ∧ x2 < (I 156 15) := by intros; first | assumption | omega | (split <;> omega))
    (v4 : (x2 < I 156 15) → (0 < (mcs I 0 x2)) → 0 ≤ x2 ∧ x2 < 12 := by intros; first | assumption | omega | (split <;> omega))
    (v5 : (x2 < I 156 15) → (0 < (mcs I 0 x2)) → 0 ≤ I 161 (10 * x2).toNat ∧ I 161 (10 * x2).toNat ≤ 9 := by intros; first | assumption | omega | (split <;> omega))
    (v6 : (x2 < I 156 15) → (0 < (mcs I 0 x2)) → ∀ k : Nat, (k : Int) < I 161 (10 * x2).toNat → 0 ≤ I 161 (((10 * x2) + 1) + (k : Int)).toNat ∧ I 161 (((10 * x2) + 1) + (k : Int)).toNat < 12 := by intros; first | assumption | omega | (split <;> omega))
    (v7 : (x2 < I 156 15) → (0 < (mcs I 0 x2)) → mPs (lnI (lnI I x2) x2) := by intros; first | assumption | omega | (split <;> omega))
    (v8 : (x2 < I 156 15) → (0 < (mcs I 0 x2)) → 1 ≤ (I 161 (10 * x2).toNat) ∧ (I 161 (10 * x2).toNat) ≤ 9 := by intros; first | assumption | omega | (split <;> omega))
    (v9 : (x2 < I 156 15) → (0 < (mcs I 0 x2)) → -2147483648 ≤ x2 + 1 ∧ x2 + 1 ≤ 2147483647 := by intros; first | assumption | omega | (split <;> omega))
    (v10 : (x2 < I 156 15) → ((mcs I 0 x2) ≤ 0) → -2147483648 ≤ x2 + 1 ∧ x2 + 1 ≤ 2147483647 := by intros; first | assumption | omega | (split <;> omega)) : L_X12_openOnes_4 d 156 x1 x2 I S v h1 :=
  
  b_X12_openOnes_4  (fun (c1 : I 156 15 ≤ x2) => ev_ret2 (r1 c1) (e1 c1) (b_X12_openOnes_57 )) (fun (c2 : x2 < I 156 15) => 
    b_X12_openOnes_12  (k_X12_behind hl0 (by first | decide | exact (show (0 : Int) = 0 ∨ (0 : Int) = 18 from by decide)) (v1 c2) (v2 c2) (v3 c2)) (
    b_X12_openOnes_18  (fun (c3 : 0 < (mcs I 0 x2)) => 
      b_X12_openOnes_24  (c_X12_laysNear hl0 (v4 c2 c3) (v5 c2 c3) (v6 c2 c3)) (
      b_X12_openOnes_29  (c_X12_degree hl0 (v4 c2 c3)) (
      b_X12_openOnes_36  (c_X12_isCovered hl0 (v7 c2 c3) (v8 c2 c3)) (
      have K6 : ∀ us1 : Int, us1 = (if ¬(cvM (lnI (lnI I x2) x2) (I 161 (10 * x2).toNat) = true) then (p_shl 1 x2 : Int) else 0) → Ev (d + 5) mX12_openOnes (49, [some (vR (some (22, 0, 156))), some (vI x1), some (vI x2)], [vI us1, vI x1], ((lnI (lnI I x2) x2), S)) (.inl (some (vI v)), h1) := fun us1 e_us1 => by subst e_us1; exact (
        b_X12_openOnes_49  (
        b_X12_openOnes_51 (v9 c2 c3) ((k1 c2 c3))))
      
      b_X12_openOnes_39  (fun c5' => have c5 : ¬(cvM (lnI (lnI I x2) x2) (I 161 (10 * x2).toNat) = true) := b2f c5'; 
        b_X12_openOnes_46  (K6 (p_shl 1 x2) ((if_pos c5).symm))) (fun c6' => have c6 : cvM (lnI (lnI I x2) x2) (I 161 (10 * x2).toNat) = true := b2t c6'; 
        b_X12_openOnes_42  (K6 0 ((if_neg (fun q => q c6)).symm))))))) (fun (c4 : (mcs I 0 x2) ≤ 0) => 
      b_X12_openOnes_21  (
      b_X12_openOnes_51 (v10 c2 c4) ((k2 c2 c4))))))
abbrev L_X12_isFreed_2 (d : Nat) (a0 : Nat) (x1 : Int) (x2 : Int) (I : Nat → Nat → Int) (S : PS) (v : Int) (h1 : PM) : Prop := Ev (d + 3) mX12_isFreed (2, [some (vR (some (22, 0, a0))), some (vI x1), some (vI x2), none, none], [], (I, S)) (.inl (some (vI v)), h1)
abbrev L_X12_isFreed_33 (d : Nat) (a0 : Nat) (x1 : Int) (x2 : Int) (I : Nat → Nat → Int) (S : PS) (v : Int) (h1 : PM) : Prop := Ev (d + 3) mX12_isFreed (33, [some (vR (some (22, 0, a0))), some (vI x1), some (vI x2), none, none], [], (I, S)) (.inl (some (vI v)), h1)
abbrev L_X12_isFreed_43 (d : Nat) (a0 : Nat) (x1 : Int) (x2 : Int) (x3 : Int) (I : Nat → Nat → Int) (S : PS) (v : Int) (h1 : PM) : Prop := Ev (d + 3) mX12_isFreed (43, [some (vR (some (22, 0, a0))), some (vI x1), some (vI x2), some (vI x3), none], [], (I, S)) (.inl (some (vI v)), h1)
abbrev L_X12_isFreed_51 (d : Nat) (a0 : Nat) (x1 : Int) (x2 : Int) (x3 : Int) (x4 : Int) (I : Nat → Nat → Int) (S : PS) (v : Int) (h1 : PM) : Prop := Ev (d + 3) mX12_isFreed (51, [some (vR (some (22, 0, a0))), some (vI x1), some (vI x2), some (vI x3), some (vI x4)], [], (I, S)) (.inl (some (vI v)), h1)
theorem w_X12_isFreed_0 {d : Nat} {I : Nat → Nat → Int} {S : PS} {x1 : Int} {v : Int} {h1 : PM} (hl0 : LyX12 S)
    (k1 : L_X12_isFreed_2 d 156 x1 0 I S v h1) : Ca (d + 3) mX12_isFreed [vR (some (22, 0, 156)), vI x1] (I, S) (.inl (some (vI v))) h1 :=
  Ca.of rfl rfl (
  b_X12_isFreed_0  (k1))
theorem w_X12_isFreed_2 {d : Nat} {I : Nat → Nat → Int} {S : PS} {x1 x2 : Int} {v : Int} {h1 : PM} (hl0 : LyX12 S)
    (k1 : (I 156 15 ≤ x2) → L_X12_isFreed_33 d 156 x1 0 I S v h1)
    (k2 : (x2 < I 156 15) → L_X12_isFreed_2 d 156 x1 (x2 + 1) (up2 I 182 (x2.toNat) (I 178 (18 + x2).toNat)) S v h1)
    (v1 : (x2 < I 156 15) → -2147483648 ≤ 18 + x2 ∧ 18 + x2 ≤ 2147483647 := by intros; first | assumption | omega | (split <;> omega))
    (v2 : (x2 < I 156 15) → 0 ≤ 18 + x2 ∧ 18 + x2 < (36 : Nat) := by intros; first | assumption | omega | (split <;> omega))
    (v3 : (x2 < I 156 15) → 0 ≤ x2 ∧ x2 < (12 : Nat) := by intros; first | assumption | omega | (split <;> omega))
    (v4 : (x2 < I 156 15) → -2147483648 ≤ x2 + 1 ∧ x2 + 1 ≤ 2147483647 := by intros; first | assumption | omega | (split <;> omega)) : L_X12_isFreed_2 d 156 x1 x2 I S v h1 :=
  
  b_X12_isFreed_2  (fun (c1 : I 156 15 ≤ x2) => 
    b_X12_isFreed_31  ((k1 c1))) (fun (c2 : x2 < I 156 15) => 
    b_X12_isFreed_10 (ly_X12_45 hl0) (ly_X12_39 hl0) (v1 c2) (v2 c2) (v3 c2) (v4 c2) ((k2 c2)))
theorem w_X12_isFreed_33 {d : Nat} {I : Nat → Nat → Int} {S : PS} {x1 x2 : Int} {v : Int} {h1 : PM} (hl0 : LyX12 S)
    (k1 : (x2 < I 156 15) → L_X12_isFreed_43 d 156 x1 x2 0 I S v h1)
    (r1 : (I 156 15 ≤ x2) → 0 = v)
    (e1 : (I 156 15 ≤ x2) → (I, S) = h1 := by intros; first | rfl | (exfalso; omega) | contradiction | (exfalso; simp_all; done)) : L_X12_isFreed_33 d 156 x1 x2 I S v h1 :=
  
  b_X12_isFreed_33  (fun (c1 : I 156 15 ≤ x2) => ev_ret2 (r1 c1) (e1 c1) (b_X12_isFreed_130 )) (fun (c2 : x2 < I 156 15) => 
    b_X12_isFreed_41  ((k1 c2)))
theorem w_X12_isFreed_43 {d : Nat} {I : Nat → Nat → Int} {S : PS} {x1 x2 x3 : Int} {v : Int} {h1 : PM} (hl0 : LyX12 S)
    (k1 : (4 ≤ x3) → L_X12_isFreed_33 d 156 x1 (x2 + 1) I S v h1)
    (k2 : (x3 < 4) → L_X12_isFreed_51 d 156 x1 x2 x3 0 I S v h1)
    (v1 : (4 ≤ x3) → -2147483648 ≤ x2 + 1 ∧ x2 + 1 ≤ 2147483647 := by intros; first | assumption | omega | (split <;> omega)) : L_X12_isFreed_43 d 156 x1 x2 x3 I S v h1 :=
  
  b_X12_isFreed_43  (fun (c1 : 4 ≤ x3) => 
    b_X12_isFreed_124 (v1 c1) ((k1 c1))) (fun (c2 : x3 < 4) => 
    b_X12_isFreed_48  ((k2 c2)))
theorem w_X12_isFreed_51 {d : Nat} {I : Nat → Nat → Int} {S : PS} {x1 x2 x3 x4 : Int} {v : Int} {h1 : PM} (hl0 : LyX12 S)
    (k1 : (I 156 15 ≤ x4) → ((I 178 (18 + x2).toNat ≠ (-1)) ∧ (((0 ≤ x3) ∧ (x3 ≤ 3)) ∧ (I 178 (18 + x2).toNat ≠ x3))) → ((frF (swI I 18 x2 x3) 18 x1 (I 161 (10 * x1).toNat).toNat) = 0) → L_X12_isFreed_43 d 156 x1 x2 (x3 + 1) (swI I 18 x2 x3) S v h1)
    (k2 : (I 156 15 ≤ x4) → (¬((I 178 (18 + x2).toNat ≠ (-1)) ∧ (((0 ≤ x3) ∧ (x3 ≤ 3)) ∧ (I 178 (18 + x2).toNat ≠ x3)))) → L_X12_isFreed_43 d 156 x1 x2 (x3 + 1) I S v h1)
    (k3 : (x4 < I 156 15) → L_X12_isFreed_51 d 156 x1 x2 x3 (x4 + 1) (up2 I 178 ((18 + x4).toNat) (I 182 x4.toNat)) S v h1)
    (r1 : (I 156 15 ≤ x4) → ((I 178 (18 + x2).toNat ≠ (-1)) ∧ (((0 ≤ x3) ∧ (x3 ≤ 3)) ∧ (I 178 (18 + x2).toNat ≠ x3))) → ((frF (swI I 18 x2 x3) 18 x1 (I 161 (10 * x1).toNat).toNat) ≠ 0) → 1 = v)
    (e1 : (I 156 15 ≤ x4) → ((I 178 (18 + x2).toNat ≠ (-1)) ∧ (((0 ≤ x3) ∧ (x3 ≤ 3)) ∧ (I 178 (18 + x2).toNat ≠ x3))) → ((frF (swI I 18 x2 x3) 18 x1 (I 161 (10 * x1).toNat).toNat) ≠ 0) → ((swI I 18 x2 x3), S) = h1 := by intros; first | rfl | (exfalso; omega) | contradiction | (exfalso; simp_all; done))
    (v1 : (I 156 15 ≤ x4) → -2147483648 ≤ (18 : Int) + x2 ∧ (18 : Int) + x2 ≤ 2147483647 := by intros; first | assumption | omega | (split <;> omega))
    (v2 : (I 156 15 ≤ x4) → 0 ≤ (18 : Int) + x2 ∧ (18 : Int) + x2 < (36 : Nat) := by intros; first | assumption | omega | (split <;> omega))
    (v3 : (I 156 15 ≤ x4) → ((I 178 (18 + x2).toNat ≠ (-1)) ∧ (((0 ≤ x3) ∧ (x3 ≤ 3)) ∧ (I 178 (18 + x2).toNat ≠ x3))) → mSp I := by intros; first | assumption | omega | (split <;> omega))
    (v4 : (I 156 15 ≤ x4) → ((I 178 (18 + x2).toNat ≠ (-1)) ∧ (((0 ≤ x3) ∧ (x3 ≤ 3)) ∧ (I 178 (18 + x2).toNat ≠ x3))) → mNb I := by intros; first | assumption | omega | (split <;> omega))
    (v5 : (I 156 15 ≤ x4) → ((I 178 (18 + x2).toNat ≠ (-1)) ∧ (((0 ≤ x3) ∧ (x3 ≤ 3)) ∧ (I 178 (18 + x2).toNat ≠ x3))) → 0 ≤ x2 ∧ x2 < (I 156 15) := by intros; first | assumption | omega | (split <;> omega))
    (v6 : (I 156 15 ≤ x4) → ((I 178 (18 + x2).toNat ≠ (-1)) ∧ (((0 ≤ x3) ∧ (x3 ≤ 3)) ∧ (I 178 (18 + x2).toNat ≠ x3))) → 0 ≤ x1 ∧ x1 < 12 := by intros; first | assumption | omega | (split <;> omega))
    (v7 : (I 156 15 ≤ x4) → ((I 178 (18 + x2).toNat ≠ (-1)) ∧ (((0 ≤ x3) ∧ (x3 ≤ 3)) ∧ (I 178 (18 + x2).toNat ≠ x3))) → 0 ≤ I 161 (10 * x1).toNat ∧ I 161 (10 * x1).toNat ≤ 9 := by intros; first | assumption | omega | (split <;> omega))
    (v8 : (I 156 15 ≤ x4) → ((I 178 (18 + x2).toNat ≠ (-1)) ∧ (((0 ≤ x3) ∧ (x3 ≤ 3)) ∧ (I 178 (18 + x2).toNat ≠ x3))) → ∀ k : Nat, (k : Int) < I 161 (10 * x1).toNat → 0 ≤ I 161 (((10 * x1) + 1) + (k : Int)).toNat ∧ I 161 (((10 * x1) + 1) + (k : Int)).toNat < 12 := by intros; first | assumption | omega | (split <;> omega))
    (v9 : (I 156 15 ≤ x4) → ((I 178 (18 + x2).toNat ≠ (-1)) ∧ (((0 ≤ x3) ∧ (x3 ≤ 3)) ∧ (I 178 (18 + x2).toNat ≠ x3))) → ((frF (swI I 18 x2 x3) 18 x1 (I 161 (10 * x1).toNat).toNat) = 0) → -2147483648 ≤ x3 + 1 ∧ x3 + 1 ≤ 2147483647 := by intros; first | assumption | omega | (split <;> omega))
    (v10 : (I 156 15 ≤ x4) → (¬((I 178 (18 + x2).toNat ≠ (-1)) ∧ (((0 ≤ x3) ∧ (x3 ≤ 3)) ∧ (I 178 (18 + x2).toNat ≠ x3)))) → -2147483648 ≤ x3 + 1 ∧ x3 + 1 ≤ 2147483647 := by intros; first | assumption | omega | (split <;> omega))
    (v11 : (x4 < I 156 15) → -2147483648 ≤ 18 + x4 ∧ 18 + x4 ≤ 2147483647 := by intros; first | assumption | omega | (split <;> omega))
    (v12 : (x4 < I 156 15) → 0 ≤ x4 ∧ x4 < (12 : Nat) := by intros; first | assumption | omega | (split <;> omega))
    (v13 : (x4 < I 156 15) → 0 ≤ 18 + x4 ∧ 18 + x4 < (36 : Nat) := by intros; first | assumption | omega | (split <;> omega))
    (v14 : (x4 < I 156 15) → -2147483648 ≤ x4 + 1 ∧ x4 + 1 ≤ 2147483647 := by intros; first | assumption | omega | (split <;> omega)) : L_X12_isFreed_51 d 156 x1 x2 x3 x4 I S v h1 :=
  
  b_X12_isFreed_51  (fun (c1 : I 156 15 ≤ x4) => 
    b_X12_isFreed_83  (c_X12_canSwap hl0 (v1 c1) (v2 c1)) (
    b_X12_isFreed_91  (fun c3' => have c3 : (I 178 (18 + x2).toNat ≠ (-1)) ∧ (((0 ≤ x3) ∧ (x3 ≤ 3)) ∧ (I 178 (18 + x2).toNat ≠ x3)) := b2t c3'; 
      b_X12_isFreed_97  (c_X12_swaps hl0 (by first | decide | exact (show (18 : Int) = 0 ∨ (18 : Int) = 18 from by decide)) (v3 c1 c3) (v4 c1 c3) (v5 c1 c3)) (
      b_X12_isFreed_105  (c_X12_freeFor hl0 (by first | decide | exact (show (18 : Int) = 0 ∨ (18 : Int) = 18 from by decide)) (v6 c1 c3) (v7 c1 c3) (v8 c1 c3)) (
      b_X12_isFreed_113  (fun (c5 : (frF (swI I 18 x2 x3) 18 x1 (I 161 (10 * x1).toNat).toNat) = 0) => 
        b_X12_isFreed_118 (v9 c1 c3 c5) ((k1 c1 c3 c5))) (fun (c6 : (frF (swI I 18 x2 x3) 18 x1 (I 161 (10 * x1).toNat).toNat) ≠ 0) => ev_ret2 (r1 c1 c3 c6) (e1 c1 c3 c6) (b_X12_isFreed_116 ))))) (fun c4' => have c4 : ¬((I 178 (18 + x2).toNat ≠ (-1)) ∧ (((0 ≤ x3) ∧ (x3 ≤ 3)) ∧ (I 178 (18 + x2).toNat ≠ x3))) := b2f c4'; 
      b_X12_isFreed_94  (
      b_X12_isFreed_118 (v10 c1 c4) ((k2 c1 c4)))))) (fun (c2 : x4 < I 156 15) => 
    b_X12_isFreed_60 (ly_X12_39 hl0) (v11 c2) (ly_X12_45 hl0) (v12 c2) (v13 c2) (v14 c2) ((k3 c2)))
abbrev L_X12_laysGame_11 (d : Nat) (a0 : Nat) (x1 : Int) (I : Nat → Nat → Int) (S : PS) (h1 : PM) : Prop := Ev (d + 4) mX12_laysGame (11, [some (vR (some (22, 0, a0))), some (vI x1), none, none, none, none, none, none, none, none], [], (I, S)) (.inl none, h1)
abbrev L_X12_laysGame_19 (d : Nat) (a0 : Nat) (x1 : Int) (x2 : Int) (x3 : Int) (I : Nat → Nat → Int) (S : PS) (h1 : PM) : Prop := Ev (d + 4) mX12_laysGame (19, [some (vR (some (22, 0, a0))), some (vI x1), some (vI x2), some (vI x3), none, none, none, none, none, none], [], (I, S)) (.inl none, h1)
abbrev L_X12_laysGame_108 (d : Nat) (a0 : Nat) (x1 : Int) (x2 : Int) (x3 : Int) (x4 : Int) (x5 : Int) (x6 : Int) (x7 : Int) (I : Nat → Nat → Int) (S : PS) (h1 : PM) : Prop := Ev (d + 4) mX12_laysGame (108, [some (vR (some (22, 0, a0))), some (vI x1), some (vI x2), some (vI x3), some (vI x4), some (vI x5), some (vI x6), some (vI x7), none, none], [], (I, S)) (.inl none, h1)
abbrev L_X12_laysGame_120 (d : Nat) (a0 : Nat) (x1 : Int) (x2 : Int) (x3 : Int) (x4 : Int) (x5 : Int) (x6 : Int) (x7 : Int) (x8 : Int) (I : Nat → Nat → Int) (S : PS) (h1 : PM) : Prop := Ev (d + 4) mX12_laysGame (120, [some (vR (some (22, 0, a0))), some (vI x1), some (vI x2), some (vI x3), some (vI x4), some (vI x5), some (vI x6), some (vI x7), some (vI x8), none], [], (I, S)) (.inl none, h1)
theorem w_X12_laysGame_0 {d : Nat} {I : Nat → Nat → Int} {S : PS} {h1 : PM} (hl0 : LyX12 S)
    (k1 : L_X12_laysGame_11 d 156 ((pwI 5 (I 156 44).toNat) - 1) I S h1)
    (v1 : 0 ≤ (I 156 44) ∧ (I 156 44) ≤ 4 := by intros; first | assumption | omega | (split <;> omega))
    (v2 : -2147483648 ≤ (pwI 5 (I 156 44).toNat) - 1 ∧ (pwI 5 (I 156 44).toNat) - 1 ≤ 2147483647 := by intros; first | assumption | omega | (split <;> omega)) : Ca (d + 4) mX12_laysGame [vR (some (22, 0, 156))] (I, S) (.inl none) h1 :=
  Ca.of rfl rfl (
  b_X12_laysGame_0  (c_X12_step5 hl0 v1) (
  b_X12_laysGame_8 v2 (k1)))
theorem w_X12_laysGame_11 {d : Nat} {I : Nat → Nat → Int} {S : PS} {x1 : Int} {h1 : PM} (hl0 : LyX12 S)
    (k1 : (0 ≤ x1) → L_X12_laysGame_19 d 156 x1 0 0 I S h1)
    (e1 : (x1 < 0) → (I, S) = h1 := by intros; first | rfl | (exfalso; omega) | contradiction | (exfalso; simp_all; done)) : L_X12_laysGame_11 d 156 x1 I S h1 :=
  
  b_X12_laysGame_11  (fun (c1 : x1 < 0) => ev_retV (e1 c1) (b_X12_laysGame_287 )) (fun (c2 : 0 ≤ x1) => 
    b_X12_laysGame_15  ((k1 c2)))
theorem w_X12_laysGame_19 {d : Nat} {I : Nat → Nat → Int} {S : PS} {x1 x2 x3 : Int} {h1 : PM} (hl0 : LyX12 S)
    (k1 : (I 156 44 ≤ x3) → L_X12_laysGame_108 d 156 x1 x2 (if x2 % 2 = 0 then (1 : Int) else 0) (if x2 = I 156 44 then (1 : Int) else 0) 0 0 0 I S h1)
    (k2 : (x3 < I 156 44) → L_X12_laysGame_19 d 156 x1 (x2 + (if 0 < (fgI x1 x3.toNat % 5) then (1 : Int) else 0)) (x3 + 1) (up2 I 178 ((18 + (I 180 x3.toNat)).toNat) ((fgI x1 x3.toNat % 5) - 1)) S h1)
    (v1 : (I 156 44 ≤ x3) → (0 ≤ x2 ∧ x2 ≤ 2147483647) ∧ 0 < (2 : Int) ∧ (2 : Int) ≤ 2147483647 := by intros; first | assumption | omega | (split <;> omega))
    (v2 : (x3 < I 156 44) → 0 ≤ x1 ∧ x1 ≤ 100000 := by intros; first | assumption | omega | (split <;> omega))
    (v3 : (x3 < I 156 44) → 0 ≤ x3 ∧ x3 ≤ 100 := by intros; first | assumption | omega | (split <;> omega))
    (v4 : (x3 < I 156 44) → 0 ≤ x3 ∧ x3 < (12 : Nat) := by intros; first | assumption | omega | (split <;> omega))
    (v5 : (x3 < I 156 44) → -2147483648 ≤ 18 + (I 180 x3.toNat) ∧ 18 + (I 180 x3.toNat) ≤ 2147483647 := by intros; first | assumption | omega | (split <;> omega))
    (v6 : (x3 < I 156 44) → -2147483648 ≤ (fgI x1 x3.toNat % 5) - 1 ∧ (fgI x1 x3.toNat % 5) - 1 ≤ 2147483647 := by intros; first | assumption | omega | (split <;> omega))
    (v7 : (x3 < I 156 44) → 0 ≤ 18 + (I 180 x3.toNat) ∧ 18 + (I 180 x3.toNat) < (36 : Nat) := by intros; first | assumption | omega | (split <;> omega))
    (v8 : (x3 < I 156 44) → -2147483648 ≤ x2 + (if 0 < (fgI x1 x3.toNat % 5) then (1 : Int) else 0) ∧ x2 + (if 0 < (fgI x1 x3.toNat % 5) then (1 : Int) else 0) ≤ 2147483647 := by intros; first | assumption | omega | (split <;> omega))
    (v9 : (x3 < I 156 44) → -2147483648 ≤ x3 + 1 ∧ x3 + 1 ≤ 2147483647 := by intros; first | assumption | omega | (split <;> omega)) : L_X12_laysGame_19 d 156 x1 x2 x3 I S h1 :=
  
  b_X12_laysGame_19  (fun (c1 : I 156 44 ≤ x3) => 
    have K4 : ∀ us0 : Int, us0 = (if x2 % 2 = 0 then (1 : Int) else 0) → Ev (d + 4) mX12_laysGame (83, [some (vR (some (22, 0, 156))), some (vI x1), some (vI x2), some (vI x3), none, none, none, none, none, none], [vI us0], (I, S)) (.inl none, h1) := fun us0 e_us0 => by subst e_us0; exact (
      have K7 : ∀ us0 : Int, us0 = (if x2 = I 156 44 then (1 : Int) else 0) → Ev (d + 4) mX12_laysGame (97, [some (vR (some (22, 0, 156))), some (vI x1), some (vI x2), some (vI (if x2 % 2 = 0 then (1 : Int) else 0)), none, none, none, none, none, none], [vI us0], (I, S)) (.inl none, h1) := fun us0 e_us0 => by subst e_us0; exact (
        b_X12_laysGame_97  ((k1 c1)))
      
      b_X12_laysGame_83  (fun (c6 : x2 ≠ I 156 44) => 
        b_X12_laysGame_96  (K7 0 (if_neg c6).symm)) (fun (c7 : x2 = I 156 44) => 
        b_X12_laysGame_92  (K7 1 (if_pos c7).symm)))
    
    b_X12_laysGame_72 (v1 c1) (fun (c3 : x2 % 2 ≠ 0) => 
      b_X12_laysGame_82  (K4 0 (if_neg c3).symm)) (fun (c4 : x2 % 2 = 0) => 
      b_X12_laysGame_78  (K4 1 (if_pos c4).symm))) (fun (c2 : x3 < I 156 44) => 
    b_X12_laysGame_27  (c_X12_figureOf hl0 (v2 c2) (v3 c2)) (
    have K10 : ∀ us1 : Int, us1 = (if 0 < (fgI x1 x3.toNat % 5) then (1 : Int) else 0) → Ev (d + 4) mX12_laysGame (64, [some (vR (some (22, 0, 156))), some (vI x1), some (vI x2), some (vI x3), some (vI (fgI x1 x3.toNat % 5)), none, none, none, none, none], [vI us1, vI x2], ((up2 I 178 ((18 + (I 180 x3.toNat)).toNat) ((fgI x1 x3.toNat % 5) - 1)), S)) (.inl none, h1) := fun us1 e_us1 => by subst e_us1; exact (
      b_X12_laysGame_64 (v8 c2) (v9 c2) ((k2 c2)))
    
    b_X12_laysGame_33 (ly_X12_39 hl0) (ly_X12_42 hl0) (v4 c2) (v5 c2) (v6 c2) (v7 c2) (fun (c9 : (fgI x1 x3.toNat % 5) ≤ 0) => 
      b_X12_laysGame_63  (K10 0 (if_neg (Int.not_lt.mpr c9)).symm)) (fun (c10 : 0 < (fgI x1 x3.toNat % 5)) => 
      b_X12_laysGame_59  (K10 1 (if_pos c10).symm))))
theorem w_X12_laysGame_108 {d : Nat} {I : Nat → Nat → Int} {S : PS} {x1 x2 x3 x4 x5 x6 x7 : Int} {h1 : PM} (hl0 : LyX12 S)
    (k1 : (I 156 44 ≤ x7) → (x6 ≠ 0) → (x3 = 0) → L_X12_laysGame_11 d 156 (x1 - 1) (up2 I 183 (x1.toNat) (if x5 = 0 then (1 : Int) else 2)) S h1)
    (k2 : (I 156 44 ≤ x7) → (x6 ≠ 0) → (x3 ≠ 0) → L_X12_laysGame_11 d 156 (x1 - 1) (up2 I 183 (x1.toNat) (if x4 = 0 then (2 : Int) else 1)) S h1)
    (k3 : (I 156 44 ≤ x7) → (x6 = 0) → L_X12_laysGame_11 d 156 (x1 - 1) (up2 I 183 (x1.toNat) (if x4 = 0 then (2 : Int) else 1)) S h1)
    (k4 : (x7 < I 156 44) → L_X12_laysGame_120 d 156 x1 x2 x3 x4 x5 x6 x7 0 I S h1)
    (v1 : (I 156 44 ≤ x7) → (x6 ≠ 0) → (x3 = 0) → 0 ≤ x1 ∧ x1 < (625 : Nat) := by intros; first | assumption | omega | (split <;> omega))
    (v2 : (I 156 44 ≤ x7) → (x6 ≠ 0) → (x3 = 0) → -2147483648 ≤ x1 - 1 ∧ x1 - 1 ≤ 2147483647 := by intros; first | assumption | omega | (split <;> omega))
    (v3 : (I 156 44 ≤ x7) → (x6 ≠ 0) → (x3 ≠ 0) → 0 ≤ x1 ∧ x1 < (625 : Nat) := by intros; first | assumption | omega | (split <;> omega))
    (v4 : (I 156 44 ≤ x7) → (x6 ≠ 0) → (x3 ≠ 0) → -2147483648 ≤ x1 - 1 ∧ x1 - 1 ≤ 2147483647 := by intros; first | assumption | omega | (split <;> omega))
    (v5 : (I 156 44 ≤ x7) → (x6 = 0) → 0 ≤ x1 ∧ x1 < (625 : Nat) := by intros; first | assumption | omega | (split <;> omega))
    (v6 : (I 156 44 ≤ x7) → (x6 = 0) → -2147483648 ≤ x1 - 1 ∧ x1 - 1 ≤ 2147483647 := by intros; first | assumption | omega | (split <;> omega)) : L_X12_laysGame_108 d 156 x1 x2 x3 x4 x5 x6 x7 I S h1 :=
  
  b_X12_laysGame_108  (fun (c1 : I 156 44 ≤ x7) => 
    b_X12_laysGame_218  (fun (c3 : x6 ≠ 0) => 
      b_X12_laysGame_242  (fun (c5 : x3 = 0) => 
        have K8 : ∀ us2 : Int, us2 = (if x5 = 0 then (1 : Int) else 2) → Ev (d + 4) mX12_laysGame (280, [some (vR (some (22, 0, 156))), some (vI x1), some (vI x2), some (vI x3), some (vI x4), some (vI x5), some (vI x6), some (vI x7), none, none], [vI us2, vI x1, vR (some (0, 625, 183))], (I, S)) (.inl none, h1) := fun us2 e_us2 => by subst e_us2; exact (
          b_X12_laysGame_280 (v1 c1 c3 c5) (
          b_X12_laysGame_281 (v2 c1 c3 c5) ((k1 c1 c3 c5))))
        
        b_X12_laysGame_265 (ly_X12_46 hl0) (fun (c7 : x5 = 0) => 
          b_X12_laysGame_279  (K8 1 ((if_pos c7).symm))) (fun (c8 : x5 ≠ 0) => 
          b_X12_laysGame_275  (K8 2 ((if_neg c8).symm)))) (fun (c6 : x3 ≠ 0) => 
        have K11 : ∀ us2 : Int, us2 = (if x4 = 0 then (2 : Int) else 1) → Ev (d + 4) mX12_laysGame (261, [some (vR (some (22, 0, 156))), some (vI x1), some (vI x2), some (vI x3), some (vI x4), some (vI x5), some (vI x6), some (vI x7), none, none], [vI us2, vI x1, vR (some (0, 625, 183))], (I, S)) (.inl none, h1) := fun us2 e_us2 => by subst e_us2; exact (
          b_X12_laysGame_261 (v3 c1 c3 c6) (
          b_X12_laysGame_281 (v4 c1 c3 c6) ((k2 c1 c3 c6))))
        
        b_X12_laysGame_246 (ly_X12_46 hl0) (fun (c10 : x4 = 0) => 
          b_X12_laysGame_260  (K11 2 ((if_pos c10).symm))) (fun (c11 : x4 ≠ 0) => 
          b_X12_laysGame_256  (K11 1 ((if_neg c11).symm))))) (fun (c4 : x6 = 0) => 
      have K14 : ∀ us2 : Int, us2 = (if x4 = 0 then (2 : Int) else 1) → Ev (d + 4) mX12_laysGame (238, [some (vR (some (22, 0, 156))), some (vI x1), some (vI x2), some (vI x3), some (vI x4), some (vI x5), some (vI x6), some (vI x7), none, none], [vI us2, vI x1, vR (some (0, 625, 183))], (I, S)) (.inl none, h1) := fun us2 e_us2 => by subst e_us2; exact (
        b_X12_laysGame_238 (v5 c1 c4) (
        b_X12_laysGame_281 (v6 c1 c4) ((k3 c1 c4))))
      
      b_X12_laysGame_223 (ly_X12_46 hl0) (fun (c13 : x4 = 0) => 
        b_X12_laysGame_237  (K14 2 ((if_pos c13).symm))) (fun (c14 : x4 ≠ 0) => 
        b_X12_laysGame_233  (K14 1 ((if_neg c14).symm))))) (fun (c2 : x7 < I 156 44) => 
    b_X12_laysGame_117  ((k4 c2)))
theorem w_X12_laysGame_120 {d : Nat} {I : Nat → Nat → Int} {S : PS} {x1 x2 x3 x4 x5 x6 x7 x8 : Int} {h1 : PM} (hl0 : LyX12 S)
    (k1 : (4 ≤ x8) → L_X12_laysGame_108 d 156 x1 x2 x3 x4 x5 x6 (x7 + 1) I S h1)
    (k2 : (x8 < 4) → ((I 178 (18 + (I 180 x7.toNat)).toNat = (-1)) ∧ (((0 ≤ x8) ∧ (x8 ≤ 3)) ∧ (p_and (p_shr (frF I 18 (I 180 x7.toNat) (I 161 (10 * (I 180 x7.toNat)).toNat).toNat) x8) 1 = 1))) → L_X12_laysGame_120 d 156 x1 x2 x3 (if (x4 ≠ 0) ∨ (I 183 (x1 + ((x8 + 1) * (pwI 5 x7.toNat))).toNat = 1) then (1 : Int) else 0) (if (x5 ≠ 0) ∨ (I 183 (x1 + ((x8 + 1) * (pwI 5 x7.toNat))).toNat = 2) then (1 : Int) else 0) 1 x7 (x8 + 1) I S h1)
    (k3 : (x8 < 4) → ((I 178 (18 + (I 180 x7.toNat)).toNat = (-1)) ∧ (((0 ≤ x8) ∧ (x8 ≤ 3)) ∧ (p_and (p_shr (frF I 18 (I 180 x7.toNat) (I 161 (10 * (I 180 x7.toNat)).toNat).toNat) x8) 1 = 1))) → L_X12_laysGame_120 d 156 x1 x2 x3 (if (x4 ≠ 0) ∨ (I 183 (x1 + ((x8 + 1) * (pwI 5 x7.toNat))).toNat = 1) then (1 : Int) else 0) (if (x5 ≠ 0) ∨ (I 183 (x1 + ((x8 + 1) * (pwI 5 x7.toNat))).toNat = 2) then (1 : Int) else 0) 1 x7 (x8 + 1) I S h1)
    (k4 : (x8 < 4) → (¬((I 178 (18 + (I 180 x7.toNat)).toNat = (-1)) ∧ (((0 ≤ x8) ∧ (x8 ≤ 3)) ∧ (p_and (p_shr (frF I 18 (I 180 x7.toNat) (I 161 (10 * (I 180 x7.toNat)).toNat).toNat) x8) 1 = 1)))) → L_X12_laysGame_120 d 156 x1 x2 x3 x4 x5 x6 x7 (x8 + 1) I S h1)
    (v1 : (4 ≤ x8) → -2147483648 ≤ x7 + 1 ∧ x7 + 1 ≤ 2147483647 := by intros; first | assumption | omega | (split <;> omega))
    (v2 : (x8 < 4) → 0 ≤ x7 ∧ x7 < (12 : Nat) := by intros; first | assumption | omega | (split <;> omega))
    (v3 : (x8 < 4) → -2147483648 ≤ (18 : Int) + (I 180 x7.toNat) ∧ (18 : Int) + (I 180 x7.toNat) ≤ 2147483647 := by intros; first | assumption | omega | (split <;> omega))
    (v4 : (x8 < 4) → 0 ≤ (18 : Int) + (I 180 x7.toNat) ∧ (18 : Int) + (I 180 x7.toNat) < (36 : Nat) := by intros; first | assumption | omega | (split <;> omega))
    (v5 : (x8 < 4) → (I 178 ((18 : Int) + (I 180 x7.toNat)).toNat = (-1)) → ((0 ≤ x8) ∧ (x8 ≤ 3)) → (18 : Int) = 0 ∨ (18 : Int) = 18 := by intros; first | assumption | omega | (split <;> omega))
    (v6 : (x8 < 4) → (I 178 ((18 : Int) + (I 180 x7.toNat)).toNat = (-1)) → ((0 ≤ x8) ∧ (x8 ≤ 3)) → 0 ≤ (I 180 x7.toNat) ∧ (I 180 x7.toNat) < 12 := by intros; first | assumption | omega | (split <;> omega))
    (v7 : (x8 < 4) → (I 178 ((18 : Int) + (I 180 x7.toNat)).toNat = (-1)) → ((0 ≤ x8) ∧ (x8 ≤ 3)) → 0 ≤ I 161 (10 * (I 180 x7.toNat)).toNat ∧ I 161 (10 * (I 180 x7.toNat)).toNat ≤ 9 := by intros; first | assumption | omega | (split <;> omega))
    (v8 : (x8 < 4) → (I 178 ((18 : Int) + (I 180 x7.toNat)).toNat = (-1)) → ((0 ≤ x8) ∧ (x8 ≤ 3)) → ∀ k : Nat, (k : Int) < I 161 (10 * (I 180 x7.toNat)).toNat → 0 ≤ I 161 (((10 * (I 180 x7.toNat)) + 1) + (k : Int)).toNat ∧ I 161 (((10 * (I 180 x7.toNat)) + 1) + (k : Int)).toNat < 12 := by intros; first | assumption | omega | (split <;> omega))
    (v9 : (x8 < 4) → ((I 178 (18 + (I 180 x7.toNat)).toNat = (-1)) ∧ (((0 ≤ x8) ∧ (x8 ≤ 3)) ∧ (p_and (p_shr (frF I 18 (I 180 x7.toNat) (I 161 (10 * (I 180 x7.toNat)).toNat).toNat) x8) 1 = 1))) → -2147483648 ≤ x8 + 1 ∧ x8 + 1 ≤ 2147483647 := by intros; first | assumption | omega | (split <;> omega))
    (v10 : (x8 < 4) → ((I 178 (18 + (I 180 x7.toNat)).toNat = (-1)) ∧ (((0 ≤ x8) ∧ (x8 ≤ 3)) ∧ (p_and (p_shr (frF I 18 (I 180 x7.toNat) (I 161 (10 * (I 180 x7.toNat)).toNat).toNat) x8) 1 = 1))) → 0 ≤ x7 ∧ x7 ≤ 4 := by intros; first | assumption | omega | (split <;> omega))
    (v11 : (x8 < 4) → ((I 178 (18 + (I 180 x7.toNat)).toNat = (-1)) ∧ (((0 ≤ x8) ∧ (x8 ≤ 3)) ∧ (p_and (p_shr (frF I 18 (I 180 x7.toNat) (I 161 (10 * (I 180 x7.toNat)).toNat).toNat) x8) 1 = 1))) → -2147483648 ≤ (x8 + 1) * (pwI 5 x7.toNat) ∧ (x8 + 1) * (pwI 5 x7.toNat) ≤ 2147483647 := by intros; first | assumption | omega | (split <;> omega))
    (v12 : (x8 < 4) → ((I 178 (18 + (I 180 x7.toNat)).toNat = (-1)) ∧ (((0 ≤ x8) ∧ (x8 ≤ 3)) ∧ (p_and (p_shr (frF I 18 (I 180 x7.toNat) (I 161 (10 * (I 180 x7.toNat)).toNat).toNat) x8) 1 = 1))) → -2147483648 ≤ x1 + ((x8 + 1) * (pwI 5 x7.toNat)) ∧ x1 + ((x8 + 1) * (pwI 5 x7.toNat)) ≤ 2147483647 := by intros; first | assumption | omega | (split <;> omega))
    (v13 : (x8 < 4) → ((I 178 (18 + (I 180 x7.toNat)).toNat = (-1)) ∧ (((0 ≤ x8) ∧ (x8 ≤ 3)) ∧ (p_and (p_shr (frF I 18 (I 180 x7.toNat) (I 161 (10 * (I 180 x7.toNat)).toNat).toNat) x8) 1 = 1))) → 0 ≤ x1 + ((x8 + 1) * (pwI 5 x7.toNat)) ∧ x1 + ((x8 + 1) * (pwI 5 x7.toNat)) < (625 : Nat) := by intros; first | assumption | omega | (split <;> omega))
    (v14 : (x8 < 4) → (¬((I 178 (18 + (I 180 x7.toNat)).toNat = (-1)) ∧ (((0 ≤ x8) ∧ (x8 ≤ 3)) ∧ (p_and (p_shr (frF I 18 (I 180 x7.toNat) (I 161 (10 * (I 180 x7.toNat)).toNat).toNat) x8) 1 = 1)))) → -2147483648 ≤ x8 + 1 ∧ x8 + 1 ≤ 2147483647 := by intros; first | assumption | omega | (split <;> omega)) : L_X12_laysGame_120 d 156 x1 x2 x3 x4 x5 x6 x7 x8 I S h1 :=
  
  b_X12_laysGame_120  (fun (c1 : 4 ≤ x8) => 
    b_X12_laysGame_212 (v1 c1) ((k1 c1))) (fun (c2 : x8 < 4) => 
    b_X12_laysGame_126 (ly_X12_42 hl0) (v2 c2) (c_X12_canPaint hl0 (v3 c2) (v4 c2) (v5 c2) (v6 c2) (v7 c2) (v8 c2)) (
    b_X12_laysGame_141  (fun c15' => have c15 : (I 178 (18 + (I 180 x7.toNat)).toNat = (-1)) ∧ (((0 ≤ x8) ∧ (x8 ≤ 3)) ∧ (p_and (p_shr (frF I 18 (I 180 x7.toNat) (I 161 (10 * (I 180 x7.toNat)).toNat).toNat) x8) 1 = 1)) := b2t c15'; 
      b_X12_laysGame_147 (ly_X12_46 hl0) (v9 c2 c15) (c_X12_step5 hl0 (v10 c2 c15)) (
      have K20 : ∀ us0 : Int, us0 = (if (x4 ≠ 0) ∨ (I 183 (x1 + ((x8 + 1) * (pwI 5 x7.toNat))).toNat = 1) then (1 : Int) else 0) → Ev (d + 4) mX12_laysGame (186, [some (vR (some (22, 0, 156))), some (vI x1), some (vI x2), some (vI x3), some (vI x4), some (vI x5), some (vI 1), some (vI x7), some (vI x8), some (vI (I 183 (x1 + ((x8 + 1) * (pwI 5 x7.toNat))).toNat))], [vI us0], (I, S)) (.inl none, h1) := fun us0 e_us0 => by subst e_us0; exact (
        have K25 : ∀ us0 : Int, us0 = (if (x5 ≠ 0) ∨ (I 183 (x1 + ((x8 + 1) * (pwI 5 x7.toNat))).toNat = 2) then (1 : Int) else 0) → Ev (d + 4) mX12_laysGame (204, [some (vR (some (22, 0, 156))), some (vI x1), some (vI x2), some (vI x3), some (vI (if (x4 ≠ 0) ∨ (I 183 (x1 + ((x8 + 1) * (pwI 5 x7.toNat))).toNat = 1) then (1 : Int) else 0)), some (vI x5), some (vI 1), some (vI x7), some (vI x8), some (vI (I 183 (x1 + ((x8 + 1) * (pwI 5 x7.toNat))).toNat))], [vI us0], (I, S)) (.inl none, h1) := fun us0 e_us0 => by subst e_us0; exact (
          b_X12_laysGame_204  (
          b_X12_laysGame_206 (v9 c2 c15) ((k3 c2 c15))))
        
        b_X12_laysGame_186  (fun (c22 : x5 ≠ 0) => 
          b_X12_laysGame_199  (K25 1 (if_pos (Or.inl c22)).symm)) (fun (c23 : x5 = 0) => 
          b_X12_laysGame_193  (fun (c24 : I 183 (x1 + ((x8 + 1) * (pwI 5 x7.toNat))).toNat ≠ 2) => 
            b_X12_laysGame_203  (K25 0 (if_neg (fun q => q.elim (fun q => q c23) c24)).symm)) (fun (c25 : I 183 (x1 + ((x8 + 1) * (pwI 5 x7.toNat))).toNat = 2) => 
            b_X12_laysGame_199  (K25 1 (if_pos (Or.inr c25)).symm))))
      
      b_X12_laysGame_165 (v11 c2 c15) (v12 c2 c15) (v13 c2 c15) (fun (c17 : x4 ≠ 0) => 
        b_X12_laysGame_181  (K20 1 (if_pos (Or.inl c17)).symm)) (fun (c18 : x4 = 0) => 
        b_X12_laysGame_175  (fun (c19 : I 183 (x1 + ((x8 + 1) * (pwI 5 x7.toNat))).toNat ≠ 1) => 
          b_X12_laysGame_185  (K20 0 (if_neg (fun q => q.elim (fun q => q c18) c19)).symm)) (fun (c20 : I 183 (x1 + ((x8 + 1) * (pwI 5 x7.toNat))).toNat = 1) => 
          b_X12_laysGame_181  (K20 1 (if_pos (Or.inr c20)).symm))))) (fun c16' => have c16 : ¬((I 178 (18 + (I 180 x7.toNat)).toNat = (-1)) ∧ (((0 ≤ x8) ∧ (x8 ≤ 3)) ∧ (p_and (p_shr (frF I 18 (I 180 x7.toNat) (I 161 (10 * (I 180 x7.toNat)).toNat).toNat) x8) 1 = 1))) := b2f c16'; 
      b_X12_laysGame_144  (
      b_X12_laysGame_206 (v14 c2 c16) ((k4 c2 c16))))))
abbrev L_X12_meant_45 (d : Nat) (a0 : Nat) (x1 : Int) (x2 : Int) (x3 : Int) (x4 : Int) (I : Nat → Nat → Int) (S : PS) (v : Int) (h1 : PM) : Prop := Ev (d + 6) mX12_meant (45, [some (vR (some (22, 0, a0))), some (vI x1), some (vI x2), some (vI x3), some (vI x4), none], [], (I, S)) (.inl (some (vI v)), h1)
abbrev L_X12_meant_57 (d : Nat) (a0 : Nat) (x1 : Int) (x2 : Int) (x3 : Int) (x4 : Int) (x5 : Int) (I : Nat → Nat → Int) (S : PS) (v : Int) (h1 : PM) : Prop := Ev (d + 6) mX12_meant (57, [some (vR (some (22, 0, a0))), some (vI x1), some (vI x2), some (vI x3), some (vI x4), some (vI x5)], [], (I, S)) (.inl (some (vI v)), h1)
theorem w_X12_meant_0 {d : Nat} {I : Nat → Nat → Int} {S : PS} {x1 : Int} {v : Int} {h1 : PM} (hl0 : LyX12 S)
    (k1 : ((((0 ≤ x1) ∧ (x1 ≤ 2)))) → (x1 ≠ 2) → L_X12_meant_45 d 156 x1 0 (-1) 0 (trI (up2 I 156 0 0)) S v h1)
    (r1 : ((((0 ≤ x1) ∧ (x1 ≤ 2)))) → (x1 = 2) → (if allB (inP (trI (up2 I 156 0 0))) ((I 156 56)).toNat = true then (1 : Int) else 0) = v)
    (e1 : ((((0 ≤ x1) ∧ (x1 ≤ 2)))) → (x1 = 2) → ((inF (trI (up2 I 156 0 0))), S) = h1 := by intros; first | rfl | (exfalso; omega) | contradiction | (exfalso; simp_all; done))
    (r2 : (¬(((0 ≤ x1) ∧ (x1 ≤ 2)))) → 0 = v)
    (e2 : (¬(((0 ≤ x1) ∧ (x1 ≤ 2)))) → ((up2 (up2 I 156 0 0) 156 0 1), S) = h1 := by intros; first | rfl | (exfalso; omega) | contradiction | (exfalso; simp_all; done))
    (v1 : ((((0 ≤ x1) ∧ (x1 ≤ 2)))) → (x1 = 2) → mSp (trI (up2 I 156 0 0)) := by intros; first | assumption | omega | (split <;> omega))
    (v2 : ((((0 ≤ x1) ∧ (x1 ≤ 2)))) → (x1 = 2) → mRl (trI (up2 I 156 0 0)) 18 := by intros; first | assumption | omega | (split <;> omega))
    (v3 : ((((0 ≤ x1) ∧ (x1 ≤ 2)))) → (x1 = 2) → 0 ≤ (I 156 56) ∧ (I 156 56) ≤ 8 := by intros; first | assumption | omega | (split <;> omega))
    (v4 : ((((0 ≤ x1) ∧ (x1 ≤ 2)))) → (x1 = 2) → ∀ k : Nat, (k : Int) < (I 156 56) → 0 ≤ I 187 (2 * (k : Int)).toNat ∧ I 187 (2 * (k : Int)).toNat < (I 156 15) := by intros; first | assumption | omega | (split <;> omega)) : Ca (d + 6) mX12_meant [vR (some (22, 0, 156)), vI x1] (I, S) (.inl (some (vI v))) h1 :=
  Ca.of rfl rfl (
  (Classical.em ((((0 ≤ x1) ∧ (x1 ≤ 2))))).elim (fun c1 => 
    b_X12_meant_0  (c_X12_isWhat_y hl0 (by first | decide | exact (show 0 = 0 from by decide)) c1) (
    b_X12_meant_11  (fun _ => 
      b_X12_meant_16  (c_X12_tries hl0) (
      b_X12_meant_20  (fun (c3 : x1 ≠ 2) => 
        b_X12_meant_38  ((k1 c1 c3))) (fun (c4 : x1 = 2) => 
        b_X12_meant_25  (c_X12_isNoted hl0 (v1 c1 c4) (v2 c1 c4) (v3 c1 c4) (v4 c1 c4)) (
        have K6 : ∀ us0 : Int, us0 = (if allB (inP (trI (up2 I 156 0 0))) ((I 156 56)).toNat = true then (1 : Int) else 0) → Ev (d + 6) mX12_meant (37, [some (vR (some (22, 0, 156))), some (vI x1), none, none, none, none], [vI us0], ((inF (trI (up2 I 156 0 0))), S)) (.inl (some (vI v)), h1) := fun us0 e_us0 => by subst e_us0; exact (ev_ret2 (r1 c1 c4) (e1 c1 c4) (b_X12_meant_37 ))
        
        b_X12_meant_29  (fun c5' => have c5 : ¬(allB (inP (trI (up2 I 156 0 0))) ((I 156 56)).toNat = true) := b2f c5'; 
          b_X12_meant_36  (K6 0 (if_neg c5).symm)) (fun c6' => have c6 : allB (inP (trI (up2 I 156 0 0))) ((I 156 56)).toNat = true := b2t c6'; 
          b_X12_meant_32  (K6 1 (if_pos c6).symm)))))) (fun c => absurd c (by decide)))) (fun c2 => 
    b_X12_meant_0  (c_X12_isWhat_n hl0 (by first | decide | exact (show 0 = 0 from by decide)) c2) (
    b_X12_meant_11  (fun c => absurd c (by decide)) (fun _ => ev_ret2 (r2 c2) (e2 c2) (b_X12_meant_14 )))))
theorem w_X12_meant_45 {d : Nat} {I : Nat → Nat → Int} {S : PS} {x1 x2 x3 x4 : Int} {v : Int} {h1 : PM} (hl0 : LyX12 S)
    (k1 : (x4 < I 156 14) → L_X12_meant_57 d 156 x1 x2 x3 x4 1 I S v h1)
    (r1 : (I 156 14 ≤ x4) → (if x1 ≠ 0 then (x3 : Int) else x2) = v)
    (e1 : (I 156 14 ≤ x4) → (I, S) = h1 := by intros; first | rfl | (exfalso; omega) | contradiction | (exfalso; simp_all; done)) : L_X12_meant_45 d 156 x1 x2 x3 x4 I S v h1 :=
  
  b_X12_meant_45  (fun (c1 : I 156 14 ≤ x4) => 
    have K4 : ∀ us0 : Int, us0 = (if x1 ≠ 0 then (x3 : Int) else x2) → Ev (d + 6) mX12_meant (159, [some (vR (some (22, 0, 156))), some (vI x1), some (vI x2), some (vI x3), some (vI x4), none], [vI us0], (I, S)) (.inl (some (vI v)), h1) := fun us0 e_us0 => by subst e_us0; exact (ev_ret2 (r1 c1) (e1 c1) (b_X12_meant_159 ))
    
    b_X12_meant_150  (fun (c3 : x1 ≠ 0) => 
      b_X12_meant_158  (K4 x3 ((if_pos c3).symm))) (fun (c4 : x1 = 0) => 
      b_X12_meant_154  (K4 x2 ((if_neg (fun q => q c4)).symm)))) (fun (c2 : x4 < I 156 14) => 
    b_X12_meant_54  ((k1 c2)))
theorem w_X12_meant_57 {d : Nat} {I : Nat → Nat → Int} {S : PS} {x1 x2 x3 x4 x5 : Int} {v : Int} {h1 : PM} (hl0 : LyX12 S)
    (k1 : (100 ≤ x5) → L_X12_meant_45 d 156 x1 x2 x3 (x4 + 1) (up2 I 178 ((30 + x4).toNat) (I 178 (12 + x4).toNat)) S v h1)
    (k2 : (x5 < 100) → (x5 = (up2 I 178 ((30 + x4).toNat) x5) 178 (12 + x4).toNat) → L_X12_meant_57 d 156 x1 x2 x3 x4 (x5 + 1) (up2 I 178 ((30 + x4).toNat) x5) S v h1)
    (k3 : (x5 < 100) → (x5 ≠ (up2 I 178 ((30 + x4).toNat) x5) 178 (12 + x4).toNat) → L_X12_meant_57 d 156 x1 (if allB (inP (up2 I 178 ((30 + x4).toNat) x5)) ((I 156 56)).toNat = true then (x2 + 1 : Int) else x2) (if allB (inP (up2 I 178 ((30 + x4).toNat) x5)) ((I 156 56)).toNat = true then ((if x3 ≠ (-1) then (x3 : Int) else (100 * x4) + x5) : Int) else x3) x4 (x5 + 1) (inF (up2 I 178 ((30 + x4).toNat) x5)) S v h1)
    (v1 : (100 ≤ x5) → -2147483648 ≤ 30 + x4 ∧ 30 + x4 ≤ 2147483647 := by intros; first | assumption | omega | (split <;> omega))
    (v2 : (100 ≤ x5) → -2147483648 ≤ 12 + x4 ∧ 12 + x4 ≤ 2147483647 := by intros; first | assumption | omega | (split <;> omega))
    (v3 : (100 ≤ x5) → 0 ≤ 12 + x4 ∧ 12 + x4 < (36 : Nat) := by intros; first | assumption | omega | (split <;> omega))
    (v4 : (100 ≤ x5) → 0 ≤ 30 + x4 ∧ 30 + x4 < (36 : Nat) := by intros; first | assumption | omega | (split <;> omega))
    (v5 : (100 ≤ x5) → -2147483648 ≤ x4 + 1 ∧ x4 + 1 ≤ 2147483647 := by intros; first | assumption | omega | (split <;> omega))
    (v6 : (x5 < 100) → -2147483648 ≤ 30 + x4 ∧ 30 + x4 ≤ 2147483647 := by intros; first | assumption | omega | (split <;> omega))
    (v7 : (x5 < 100) → 0 ≤ 30 + x4 ∧ 30 + x4 < (36 : Nat) := by intros; first | assumption | omega | (split <;> omega))
    (v8 : (x5 < 100) → -2147483648 ≤ 12 + x4 ∧ 12 + x4 ≤ 2147483647 := by intros; first | assumption | omega | (split <;> omega))
    (v9 : (x5 < 100) → 0 ≤ 12 + x4 ∧ 12 + x4 < (36 : Nat) := by intros; first | assumption | omega | (split <;> omega))
    (v10 : (x5 < 100) → (x5 = (up2 I 178 ((30 + x4).toNat) x5) 178 (12 + x4).toNat) → -2147483648 ≤ x5 + 1 ∧ x5 + 1 ≤ 2147483647 := by intros; first | assumption | omega | (split <;> omega))
    (v11 : (x5 < 100) → (x5 ≠ (up2 I 178 ((30 + x4).toNat) x5) 178 (12 + x4).toNat) → mSp (up2 I 178 ((30 + x4).toNat) x5) := by intros; first | assumption | omega | (split <;> omega))
    (v12 : (x5 < 100) → (x5 ≠ (up2 I 178 ((30 + x4).toNat) x5) 178 (12 + x4).toNat) → mRl (up2 I 178 ((30 + x4).toNat) x5) 18 := by intros; first | assumption | omega | (split <;> omega))
    (v13 : (x5 < 100) → (x5 ≠ (up2 I 178 ((30 + x4).toNat) x5) 178 (12 + x4).toNat) → 0 ≤ (I 156 56) ∧ (I 156 56) ≤ 8 := by intros; first | assumption | omega | (split <;> omega))
    (v14 : (x5 < 100) → (x5 ≠ (up2 I 178 ((30 + x4).toNat) x5) 178 (12 + x4).toNat) → ∀ k : Nat, (k : Int) < (I 156 56) → 0 ≤ I 187 (2 * (k : Int)).toNat ∧ I 187 (2 * (k : Int)).toNat < (I 156 15) := by intros; first | assumption | omega | (split <;> omega))
    (v15 : (x5 < 100) → (x5 ≠ (up2 I 178 ((30 + x4).toNat) x5) 178 (12 + x4).toNat) → (allB (inP (up2 I 178 ((30 + x4).toNat) x5)) ((I 156 56)).toNat = true) → -2147483648 ≤ x2 + 1 ∧ x2 + 1 ≤ 2147483647 := by intros; first | assumption | omega | (split <;> omega))
    (v16 : (x5 < 100) → (x5 ≠ (up2 I 178 ((30 + x4).toNat) x5) 178 (12 + x4).toNat) → (allB (inP (up2 I 178 ((30 + x4).toNat) x5)) ((I 156 56)).toNat = true) → (x3 = (-1)) → -2147483648 ≤ 100 * x4 ∧ 100 * x4 ≤ 2147483647 := by intros; first | assumption | omega | (split <;> omega))
    (v17 : (x5 < 100) → (x5 ≠ (up2 I 178 ((30 + x4).toNat) x5) 178 (12 + x4).toNat) → (allB (inP (up2 I 178 ((30 + x4).toNat) x5)) ((I 156 56)).toNat = true) → (x3 = (-1)) → -2147483648 ≤ (100 * x4) + x5 ∧ (100 * x4) + x5 ≤ 2147483647 := by intros; first | assumption | omega | (split <;> omega))
    (v18 : (x5 < 100) → (x5 ≠ (up2 I 178 ((30 + x4).toNat) x5) 178 (12 + x4).toNat) → -2147483648 ≤ x5 + 1 ∧ x5 + 1 ≤ 2147483647 := by intros; first | assumption | omega | (split <;> omega)) : L_X12_meant_57 d 156 x1 x2 x3 x4 x5 I S v h1 :=
  
  b_X12_meant_57  (fun (c1 : 100 ≤ x5) => 
    b_X12_meant_124 (ly_X12_39 hl0) (v1 c1) (v2 c1) (v3 c1) (v4 c1) (v5 c1) ((k1 c1))) (fun (c2 : x5 < 100) => 
    b_X12_meant_64 (ly_X12_39 hl0) (v6 c2) (v7 c2) (v8 c2) (v9 c2) (fun (c3 : x5 = (up2 I 178 ((30 + x4).toNat) x5) 178 (12 + x4).toNat) => 
      b_X12_meant_118 (v10 c2 c3) ((k2 c2 c3))) (fun (c4 : x5 ≠ (up2 I 178 ((30 + x4).toNat) x5) 178 (12 + x4).toNat) => 
      b_X12_meant_91  (c_X12_isNoted hl0 (v11 c2 c4) (v12 c2 c4) (v13 c2 c4) (v14 c2 c4)) (
      have K8 : ∀ u2 : Int, u2 = (if allB (inP (up2 I 178 ((30 + x4).toNat) x5)) ((I 156 56)).toNat = true then (x2 + 1 : Int) else x2) → ∀ u3 : Int, u3 = (if allB (inP (up2 I 178 ((30 + x4).toNat) x5)) ((I 156 56)).toNat = true then ((if x3 ≠ (-1) then (x3 : Int) else (100 * x4) + x5) : Int) else x3) → Ev (d + 6) mX12_meant (118, [some (vR (some (22, 0, 156))), some (vI x1), some (vI u2), some (vI u3), some (vI x4), some (vI x5)], [], ((inF (up2 I 178 ((30 + x4).toNat) x5)), S)) (.inl (some (vI v)), h1) := fun u2 e_u2 u3 e_u3 => by subst e_u2; exact by subst e_u3; exact (
        b_X12_meant_118 (v18 c2 c4) ((k3 c2 c4)))
      
      b_X12_meant_95  (fun c5' => have c5 : allB (inP (up2 I 178 ((30 + x4).toNat) x5)) ((I 156 56)).toNat = true := b2t c5'; 
        b_X12_meant_101 (v15 c2 c4 c5) (fun (c7 : x3 ≠ (-1)) => K8 (x2 + 1) ((if_pos c5).symm) x3 ((if_pos c7).symm.trans (if_pos c5).symm)) (fun (c8 : x3 = (-1)) => 
          b_X12_meant_109 (v16 c2 c4 c5 c8) (v17 c2 c4 c5 c8) (K8 (x2 + 1) ((if_pos c5).symm) ((100 * x4) + x5) ((if_neg (fun q => q c8)).symm.trans (if_pos c5).symm)))) (fun c6' => have c6 : ¬(allB (inP (up2 I 178 ((30 + x4).toNat) x5)) ((I 156 56)).toNat = true) := b2f c6'; 
        b_X12_meant_98  (K8 x2 ((if_neg c6).symm) x3 ((if_neg c6).symm))))))
abbrev L_X12_cases_36 (d : Nat) (a0 : Nat) (x1 : Int) (x2 : Int) (x3 : Int) (x4 : Int) (I : Nat → Nat → Int) (S : PS) (v : Int) (h1 : PM) : Prop := Ev (d + 4) mX12_cases (36, [some (vR (some (22, 0, a0))), some (vI x1), some (vI x2), some (vI x3), some (vI x4), none, none, none, none, none, none, none, none, none], [], (I, S)) (.inl (some (vI v)), h1)
abbrev L_X12_cases_72 (d : Nat) (a0 : Nat) (x1 : Int) (x2 : Int) (x3 : Int) (x4 : Int) (x5 : Int) (x6 : Int) (x7 : Int) (x8 : Int) (x9 : Int) (I : Nat → Nat → Int) (S : PS) (v : Int) (h1 : PM) : Prop := Ev (d + 4) mX12_cases (72, [some (vR (some (22, 0, a0))), some (vI x1), some (vI x2), some (vI x3), some (vI x4), some (vI x5), some (vI x6), some (vI x7), some (vI x8), some (vI x9), none, none, none, none], [], (I, S)) (.inl (some (vI v)), h1)
abbrev L_X12_cases_90 (d : Nat) (a0 : Nat) (x1 : Int) (x2 : Int) (x3 : Int) (x4 : Int) (x5 : Int) (x6 : Int) (x7 : Int) (x8 : Int) (x9 : Int) (x10 : Int) (x11 : Int) (x12 : Int) (I : Nat → Nat → Int) (S : PS) (v : Int) (h1 : PM) : Prop := Ev (d + 4) mX12_cases (90, [some (vR (some (22, 0, a0))), some (vI x1), some (vI x2), some (vI x3), some (vI x4), some (vI x5), some (vI x6), some (vI x7), some (vI x8), some (vI x9), some (vI x10), some (vI x11), some (vI x12), none], [], (I, S)) (.inl (some (vI v)), h1)
abbrev L_X12_cases_186 (d : Nat) (a0 : Nat) (x1 : Int) (x2 : Int) (x3 : Int) (x4 : Int) (x5 : Int) (x6 : Int) (x7 : Int) (x8 : Int) (x9 : Int) (x10 : Int) (x11 : Int) (x12 : Int) (x13 : Int) (I : Nat → Nat → Int) (S : PS) (v : Int) (h1 : PM) : Prop := Ev (d + 4) mX12_cases (186, [some (vR (some (22, 0, a0))), some (vI x1), some (vI x2), some (vI x3), some (vI x4), some (vI x5), some (vI x6), some (vI x7), some (vI x8), some (vI x9), some (vI x10), some (vI x11), some (vI x12), some (vI x13)], [], (I, S)) (.inl (some (vI v)), h1)
theorem w_X12_cases_0 {d : Nat} {I : Nat → Nat → Int} {S : PS} {x1 x2 : Int} {v : Int} {h1 : PM} (hl0 : LyX12 S)
    (k1 : ((((0 ≤ x2) ∧ (x2 ≤ 5)))) → (((5 ≤ x1) ∧ (x1 ≤ 7))) → L_X12_cases_36 d 156 x1 x2 1 0 (up2 I 156 0 0) S v h1)
    (r1 : ((((0 ≤ x2) ∧ (x2 ≤ 5)))) → (¬((5 ≤ x1) ∧ (x1 ≤ 7))) → 0 = v)
    (e1 : ((((0 ≤ x2) ∧ (x2 ≤ 5)))) → (¬((5 ≤ x1) ∧ (x1 ≤ 7))) → ((up2 (up2 I 156 0 0) 156 0 2), S) = h1 := by intros; first | rfl | (exfalso; omega) | contradiction | (exfalso; simp_all; done))
    (r2 : (¬(((0 ≤ x2) ∧ (x2 ≤ 5)))) → 0 = v)
    (e2 : (¬(((0 ≤ x2) ∧ (x2 ≤ 5)))) → ((up2 (up2 I 156 0 0) 156 0 1), S) = h1 := by intros; first | rfl | (exfalso; omega) | contradiction | (exfalso; simp_all; done)) : Ca (d + 4) mX12_cases [vR (some (22, 0, 156)), vI x1, vI x2] (I, S) (.inl (some (vI v))) h1 :=
  Ca.of rfl rfl (
  (Classical.em ((((0 ≤ x2) ∧ (x2 ≤ 5))))).elim (fun c1 => 
    b_X12_cases_0  (c_X12_isWhat_y hl0 (by first | decide | exact (show 0 = 0 from by decide)) c1) (
    b_X12_cases_11  (fun c => absurd c (by decide)) (fun _ => 
      b_X12_cases_14  c_X12_within (
      (Classical.em (((5 ≤ x1) ∧ (x1 ≤ 7)))).elim (fun c3 => 
        b_X12_cases_22  (c_X12_right_y (b1 := (5 ≤ x1) ∧ (x1 ≤ 7)) hl0 (by first | decide | exact (show 0 = 0 from by decide)) (by first | decide | exact (show (2 : Int) ≠ 0 from by decide)) c3) (
        b_X12_cases_26  (fun _ => 
          b_X12_cases_31  ((k1 c1 c3))) (fun c => absurd c (by decide)))) (fun c4 => 
        b_X12_cases_22  (c_X12_right_n (b1 := (5 ≤ x1) ∧ (x1 ≤ 7)) hl0 (by first | decide | exact (show 0 = 0 from by decide)) (by first | decide | exact (show (2 : Int) ≠ 0 from by decide)) c4) (
        b_X12_cases_26  (fun c => absurd c (by decide)) (fun _ => ev_ret2 (r1 c1 c4) (e1 c1 c4) (b_X12_cases_29 )))))))) (fun c2 => 
    b_X12_cases_0  (c_X12_isWhat_n hl0 (by first | decide | exact (show 0 = 0 from by decide)) c2) (
    b_X12_cases_11  (fun _ => ev_ret2 (r2 c2) (e2 c2) (b_X12_cases_29 )) (fun c => absurd c (by decide)))))
theorem w_X12_cases_36 {d : Nat} {I : Nat → Nat → Int} {S : PS} {x1 x2 x3 x4 : Int} {v : Int} {h1 : PM} (hl0 : LyX12 S)
    (k1 : (x1 ≤ x4) → L_X12_cases_72 d 156 x1 x2 x3 0 0 0 (-1) (-999999) 0 I S v h1)
    (k2 : (x4 < x1) → L_X12_cases_36 d 156 x1 x2 (3 * x3) (x4 + 1) I S v h1)
    (v1 : (x4 < x1) → -2147483648 ≤ 3 * x3 ∧ 3 * x3 ≤ 2147483647 := by intros; first | assumption | omega | (split <;> omega))
    (v2 : (x4 < x1) → -2147483648 ≤ x4 + 1 ∧ x4 + 1 ≤ 2147483647 := by intros; first | assumption | omega | (split <;> omega)) : L_X12_cases_36 d 156 x1 x2 x3 x4 I S v h1 :=
  
  b_X12_cases_36  (fun (c1 : x1 ≤ x4) => 
    b_X12_cases_52  ((k1 c1))) (fun (c2 : x4 < x1) => 
    b_X12_cases_42 (v1 c2) (v2 c2) ((k2 c2)))
theorem w_X12_cases_72 {d : Nat} {I : Nat → Nat → Int} {S : PS} {x1 x2 x3 x4 x5 x6 x7 x8 x9 : Int} {v : Int} {h1 : PM} (hl0 : LyX12 S)
    (k1 : (x9 < x3) → L_X12_cases_90 d 156 x1 x2 x3 x4 x5 x6 x7 x8 x9 x9 0 (x1 - 1) I S v h1)
    (r1 : (x3 ≤ x9) → (x2 = 0) → x4 = v)
    (e1 : (x3 ≤ x9) → (x2 = 0) → (I, S) = h1 := by intros; first | rfl | (exfalso; omega) | contradiction | (exfalso; simp_all; done))
    (r2 : (x3 ≤ x9) → (x2 = 1) → x5 = v)
    (e2 : (x3 ≤ x9) → (x2 = 1) → (I, S) = h1 := by intros; first | rfl | (exfalso; omega) | contradiction | (exfalso; simp_all; done))
    (r3 : (x3 ≤ x9) → (x2 = 2) → x6 = v)
    (e3 : (x3 ≤ x9) → (x2 = 2) → (I, S) = h1 := by intros; first | rfl | (exfalso; omega) | contradiction | (exfalso; simp_all; done))
    (r4 : (x3 ≤ x9) → (x2 = 3) → x5 - x6 = v)
    (e4 : (x3 ≤ x9) → (x2 = 3) → (I, S) = h1 := by intros; first | rfl | (exfalso; omega) | contradiction | (exfalso; simp_all; done))
    (r5 : (x3 ≤ x9) → (x2 = 4) → x7 = v)
    (e5 : (x3 ≤ x9) → (x2 = 4) → (I, S) = h1 := by intros; first | rfl | (exfalso; omega) | contradiction | (exfalso; simp_all; done))
    (r6 : (x3 ≤ x9) → (¬(0 ≤ x2 ∧ x2 ≤ 4)) → x8 = v)
    (e6 : (x3 ≤ x9) → (¬(0 ≤ x2 ∧ x2 ≤ 4)) → (I, S) = h1 := by intros; first | rfl | (exfalso; omega) | contradiction | (exfalso; simp_all; done))
    (v1 : (x3 ≤ x9) → (x2 = 3) → -2147483648 ≤ x5 - x6 ∧ x5 - x6 ≤ 2147483647 := by intros; first | assumption | omega | (split <;> omega))
    (v2 : (x9 < x3) → -2147483648 ≤ x1 - 1 ∧ x1 - 1 ≤ 2147483647 := by intros; first | assumption | omega | (split <;> omega)) : L_X12_cases_72 d 156 x1 x2 x3 x4 x5 x6 x7 x8 x9 I S v h1 :=
  
  b_X12_cases_72  (fun (c1 : x3 ≤ x9) => 
    b_X12_cases_229  (fun (c3 : x2 = 0) => ev_ret2 (r1 c1 c3) (e1 c1 c3) (b_X12_cases_264 )) (fun (c4 : x2 = 1) => ev_ret2 (r2 c1 c4) (e2 c1 c4) (b_X12_cases_267 )) (fun (c5 : x2 = 2) => ev_ret2 (r3 c1 c5) (e3 c1 c5) (b_X12_cases_270 )) (fun (c6 : x2 = 3) => ev_ret2 (r4 c1 c6) (e4 c1 c6) (b_X12_cases_273 (v1 c1 c6))) (fun (c7 : x2 = 4) => ev_ret2 (r5 c1 c7) (e5 c1 c7) (b_X12_cases_279 )) (fun (c8 : ¬(0 ≤ x2 ∧ x2 ≤ 4)) => ev_ret2 (r6 c1 c8) (e6 c1 c8) (b_X12_cases_282 ))) (fun (c2 : x9 < x3) => 
    b_X12_cases_78 (v2 c2) ((k1 c2)))
theorem w_X12_cases_90 {d : Nat} {I : Nat → Nat → Int} {S : PS} {x1 x2 x3 x4 x5 x6 x7 x8 x9 x10 x11 x12 : Int} {v : Int} {h1 : PM} (hl0 : LyX12 S)
    (k1 : (x12 < 0) → (llC (I 177) x1 = true) → (0 < (chB I 0 x1 x1.toNat)) → (¬(cvM I x1 = true)) → L_X12_cases_186 d 156 x1 x2 x3 (x4 + 1) (x5 + 1) x6 x7 (if (chB I 0 x1 x1.toNat) ≤ x8 then (x8 : Int) else (chB I 0 x1 x1.toNat)) x9 x10 x11 (chB I 0 x1 x1.toNat) 0 I S v h1)
    (k2 : (x12 < 0) → (llC (I 177) x1 = true) → (0 < (chB I 0 x1 x1.toNat)) → (cvM I x1 = true) → L_X12_cases_72 d 156 x1 x2 x3 (x4 + 1) (x5 + 1) (x6 + 1) x7 (if (chB I 0 x1 x1.toNat) ≤ x8 then (x8 : Int) else (chB I 0 x1 x1.toNat)) (x9 + 1) I S v h1)
    (k3 : (x12 < 0) → (llC (I 177) x1 = true) → ((chB I 0 x1 x1.toNat) ≤ 0) → L_X12_cases_72 d 156 x1 x2 x3 (x4 + 1) x5 x6 x7 (if (chB I 0 x1 x1.toNat) ≤ x8 then (x8 : Int) else (chB I 0 x1 x1.toNat)) (x9 + 1) I S v h1)
    (k4 : (x12 < 0) → (¬(llC (I 177) x1 = true)) → L_X12_cases_72 d 156 x1 x2 x3 x4 x5 x6 x7 x8 (x9 + 1) I S v h1)
    (k5 : (0 ≤ x12) → L_X12_cases_90 d 156 x1 x2 x3 x4 x5 x6 x7 x8 x9 (x10 / 3) x11 (x12 - 1) (up2 I 177 (x12.toNat) (5 + (x10 % 3))) S v h1)
    (v1 : (x12 < 0) → 1 ≤ x1 ∧ x1 ≤ 9 := by intros; first | assumption | omega | (split <;> omega))
    (v2 : (x12 < 0) → (llC (I 177) x1 = true) → -2147483648 ≤ x4 + 1 ∧ x4 + 1 ≤ 2147483647 := by intros; first | assumption | omega | (split <;> omega))
    (v3 : (x12 < 0) → (llC (I 177) x1 = true) → 0 ≤ (I 156 14) ∧ (I 156 14) ≤ 6 := by intros; first | assumption | omega | (split <;> omega))
    (v4 : (x12 < 0) → (llC (I 177) x1 = true) → ∀ k : Nat, (k : Int) < (I 156 14) → 0 ≤ I 178 ((0 : Int) + 12 + (k : Int)).toNat ∧ I 178 ((0 : Int) + 12 + (k : Int)).toNat ≤ 99 := by intros; first | assumption | omega | (split <;> omega))
    (v5 : (x12 < 0) → (llC (I 177) x1 = true) → (0 < (chB I 0 x1 x1.toNat)) → -2147483648 ≤ x5 + 1 ∧ x5 + 1 ≤ 2147483647 := by intros; first | assumption | omega | (split <;> omega))
    (v6 : (x12 < 0) → (llC (I 177) x1 = true) → (0 < (chB I 0 x1 x1.toNat)) → mPs I := by intros; first | assumption | omega | (split <;> omega))
    (v7 : (x12 < 0) → (llC (I 177) x1 = true) → (0 < (chB I 0 x1 x1.toNat)) → (cvM I x1 = true) → -2147483648 ≤ x6 + 1 ∧ x6 + 1 ≤ 2147483647 := by intros; first | assumption | omega | (split <;> omega))
    (v8 : (x12 < 0) → (llC (I 177) x1 = true) → (0 < (chB I 0 x1 x1.toNat)) → (cvM I x1 = true) → -2147483648 ≤ x9 + 1 ∧ x9 + 1 ≤ 2147483647 := by intros; first | assumption | omega | (split <;> omega))
    (v9 : (x12 < 0) → (llC (I 177) x1 = true) → ((chB I 0 x1 x1.toNat) ≤ 0) → -2147483648 ≤ x9 + 1 ∧ x9 + 1 ≤ 2147483647 := by intros; first | assumption | omega | (split <;> omega))
    (v10 : (x12 < 0) → (¬(llC (I 177) x1 = true)) → -2147483648 ≤ x9 + 1 ∧ x9 + 1 ≤ 2147483647 := by intros; first | assumption | omega | (split <;> omega))
    (v11 : (0 ≤ x12) → (0 ≤ x10 ∧ x10 ≤ 2147483647) ∧ 0 < (3 : Int) ∧ (3 : Int) ≤ 2147483647 := by intros; first | assumption | omega | (split <;> omega))
    (v12 : (0 ≤ x12) → -2147483648 ≤ 5 + (x10 % 3) ∧ 5 + (x10 % 3) ≤ 2147483647 := by intros; first | assumption | omega | (split <;> omega))
    (v13 : (0 ≤ x12) → 0 ≤ x12 ∧ x12 < (9 : Nat) := by intros; first | assumption | omega | (split <;> omega))
    (v14 : (0 ≤ x12) → -2147483648 ≤ x12 - 1 ∧ x12 - 1 ≤ 2147483647 := by intros; first | assumption | omega | (split <;> omega)) : L_X12_cases_90 d 156 x1 x2 x3 x4 x5 x6 x7 x8 x9 x10 x11 x12 I S v h1 :=
  
  b_X12_cases_90  (fun (c1 : x12 < 0) => 
    b_X12_cases_120  (c_X12_isLeast hl0 (v1 c1)) (
    b_X12_cases_125  (fun c3' => have c3 : llC (I 177) x1 = true := b2t c3'; 
      b_X12_cases_131 (v2 c1 c3) (c_X12_chargeBy hl0 (by first | decide | exact (show (0 : Int) = 0 ∨ (0 : Int) = 18 from by decide)) (v3 c1 c3) (v4 c1 c3) (v1 c1)) (
      have K6 : ∀ us0 : Int, us0 = (if (chB I 0 x1 x1.toNat) ≤ x8 then (x8 : Int) else (chB I 0 x1 x1.toNat)) → Ev (d + 4) mX12_cases (156, [some (vR (some (22, 0, 156))), some (vI x1), some (vI x2), some (vI x3), some (vI (x4 + 1)), some (vI x5), some (vI x6), some (vI x7), some (vI x8), some (vI x9), some (vI x10), some (vI x11), some (vI (chB I 0 x1 x1.toNat)), none], [vI us0], (I, S)) (.inl (some (vI v)), h1) := fun us0 e_us0 => by subst e_us0; exact (
        b_X12_cases_156  (fun (c8 : 0 < (chB I 0 x1 x1.toNat)) => 
          b_X12_cases_166 (v5 c1 c3 c8) (c_X12_isCovered hl0 (v6 c1 c3 c8) (v1 c1)) (
          b_X12_cases_174  (fun c10' => have c10 : ¬(cvM I x1 = true) := b2f c10'; 
            b_X12_cases_183  ((k1 c1 c3 c8 c10))) (fun c11' => have c11 : cvM I x1 = true := b2t c11'; 
            b_X12_cases_177 (v7 c1 c3 c8 c11) (
            b_X12_cases_223 (v8 c1 c3 c8 c11) ((k2 c1 c3 c8 c11)))))) (fun (c9 : (chB I 0 x1 x1.toNat) ≤ 0) => 
          b_X12_cases_163  (
          b_X12_cases_223 (v9 c1 c3 c9) ((k3 c1 c3 c9)))))
      
      b_X12_cases_140  (fun (c5 : (chB I 0 x1 x1.toNat) ≤ x8) => 
        b_X12_cases_154  (K6 x8 ((if_pos c5).symm))) (fun (c6 : x8 < (chB I 0 x1 x1.toNat)) => 
        b_X12_cases_149  (K6 (chB I 0 x1 x1.toNat) ((if_neg (Int.not_le.mpr c6)).symm))))) (fun c4' => have c4 : ¬(llC (I 177) x1 = true) := b2f c4'; 
      b_X12_cases_128  (
      b_X12_cases_223 (v10 c1 c4) ((k4 c1 c4)))))) (fun (c2 : 0 ≤ x12) => 
    b_X12_cases_95 (ly_X12_38 hl0) (v11 c2) (v12 c2) (v13 c2) (v11 c2) (v14 c2) ((k5 c2)))
theorem w_X12_cases_186 {d : Nat} {I : Nat → Nat → Int} {S : PS} {x1 x2 x3 x4 x5 x6 x7 x8 x9 x10 x11 x12 x13 : Int} {v : Int} {h1 : PM} (hl0 : LyX12 S)
    (k1 : (x1 ≤ x13) → L_X12_cases_72 d 156 x1 x2 x3 x4 x5 x6 (if x7 ≠ (-1) then (x7 : Int) else x11) x8 (x9 + 1) I S v h1)
    (k2 : (x13 < x1) → L_X12_cases_186 d 156 x1 x2 x3 x4 x5 x6 x7 x8 x9 x10 ((10 * x11) + (I 177 x13.toNat)) x12 (x13 + 1) I S v h1)
    (v1 : (x1 ≤ x13) → -2147483648 ≤ x9 + 1 ∧ x9 + 1 ≤ 2147483647 := by intros; first | assumption | omega | (split <;> omega))
    (v2 : (x13 < x1) → -2147483648 ≤ 10 * x11 ∧ 10 * x11 ≤ 2147483647 := by intros; first | assumption | omega | (split <;> omega))
    (v3 : (x13 < x1) → 0 ≤ x13 ∧ x13 < (9 : Nat) := by intros; first | assumption | omega | (split <;> omega))
    (v4 : (x13 < x1) → -2147483648 ≤ (10 * x11) + (I 177 x13.toNat) ∧ (10 * x11) + (I 177 x13.toNat) ≤ 2147483647 := by intros; first | assumption | omega | (split <;> omega))
    (v5 : (x13 < x1) → -2147483648 ≤ x13 + 1 ∧ x13 + 1 ≤ 2147483647 := by intros; first | assumption | omega | (split <;> omega)) : L_X12_cases_186 d 156 x1 x2 x3 x4 x5 x6 x7 x8 x9 x10 x11 x12 x13 I S v h1 :=
  
  b_X12_cases_186  (fun (c1 : x1 ≤ x13) => 
    have K4 : ∀ u7 : Int, u7 = (if x7 ≠ (-1) then (x7 : Int) else x11) → Ev (d + 4) mX12_cases (223, [some (vR (some (22, 0, 156))), some (vI x1), some (vI x2), some (vI x3), some (vI x4), some (vI x5), some (vI x6), some (vI u7), some (vI x8), some (vI x9), some (vI x10), some (vI x11), some (vI x12), none], [], (I, S)) (.inl (some (vI v)), h1) := fun u7 e_u7 => by subst e_u7; exact (
      b_X12_cases_223 (v1 c1) ((k1 c1)))
    
    b_X12_cases_213  (fun (c3 : x7 ≠ (-1)) => K4 x7 ((if_pos c3).symm)) (fun (c4 : x7 = (-1)) => 
      b_X12_cases_219  (K4 x11 ((if_neg (fun q => q c4)).symm)))) (fun (c2 : x13 < x1) => 
    b_X12_cases_192 (v2 c2) (ly_X12_38 hl0) (v3 c2) (v4 c2) (v5 c2) ((k2 c2)))
abbrev L_X3_isC_22 (d : Nat) (a0 : Nat) (x1 : Int) (I : Nat → Nat → Int) (S : PS) (v : Int) (h1 : PM) : Prop := Ev (d + 2) mX3_isC (22, [some (vR (some (14, 0, a0))), some (vI x1)], [], (I, S)) (.inl (some (vI v)), h1)
theorem w_X3_isC_0 {d : Nat} {I : Nat → Nat → Int} {S : PS} {a0 : Nat} {v : Int} {h1 : PM} (hl0 : LyX3 S a0)
    (k1 : (I a0 6 ≠ 0) → ((smI (fun k => bcn (I (a0 + 8) k) 32) 3) ≠ 0) → L_X3_isC_22 d a0 0 I S v h1)
    (r1 : (I a0 6 = 0) → 0 = v)
    (e1 : (I a0 6 = 0) → (I, S) = h1 := by intros; first | rfl | (exfalso; omega) | contradiction | (exfalso; simp_all; done))
    (r2 : (I a0 6 ≠ 0) → ((smI (fun k => bcn (I (a0 + 8) k) 32) 3) = 0) → 0 = v)
    (e2 : (I a0 6 ≠ 0) → ((smI (fun k => bcn (I (a0 + 8) k) 32) 3) = 0) → (I, S) = h1 := by intros; first | rfl | (exfalso; omega) | contradiction | (exfalso; simp_all; done)) : Ca (d + 2) mX3_isC [vR (some (14, 0, a0))] (I, S) (.inl (some (vI v))) h1 :=
  Ca.of rfl rfl (
  b_X3_isC_0  (fun (c1 : I a0 6 = 0) => ev_ret2 (r1 c1) (e1 c1) (b_X3_isC_18 )) (fun (c2 : I a0 6 ≠ 0) => 
    b_X3_isC_7 (ly_X3_13 hl0) (c_X3_sizeOf hl0 (by first | decide | exact (show 3 = 3 from by decide))) (
    b_X3_isC_15  (fun (c3 : (smI (fun k => bcn (I (a0 + 8) k) 32) 3) ≠ 0) => 
      b_X3_isC_20  ((k1 c2 c3))) (fun (c4 : (smI (fun k => bcn (I (a0 + 8) k) 32) 3) = 0) => ev_ret2 (r2 c2 c4) (e2 c2 c4) (b_X3_isC_18 )))))
theorem w_X3_isC_22 {d : Nat} {I : Nat → Nat → Int} {S : PS} {a0 : Nat} {x1 : Int} {v : Int} {h1 : PM} (hl0 : LyX3 S a0)
    (k1 : (x1 < 3) → (p_and (I (a0 + 8) x1.toNat) (I (a0 + 7) x1.toNat) = 0) → L_X3_isC_22 d a0 (x1 + 1) I S v h1)
    (r1 : (3 ≤ x1) → 1 = v)
    (e1 : (3 ≤ x1) → (I, S) = h1 := by intros; first | rfl | (exfalso; omega) | contradiction | (exfalso; simp_all; done))
    (r2 : (x1 < 3) → (p_and (I (a0 + 8) x1.toNat) (I (a0 + 7) x1.toNat) ≠ 0) → 0 = v)
    (e2 : (x1 < 3) → (p_and (I (a0 + 8) x1.toNat) (I (a0 + 7) x1.toNat) ≠ 0) → (I, S) = h1 := by intros; first | rfl | (exfalso; omega) | contradiction | (exfalso; simp_all; done))
    (v1 : (x1 < 3) → 0 ≤ x1 ∧ x1 < (3 : Nat) := by intros; first | assumption | omega | (split <;> omega))
    (v2 : (x1 < 3) → (p_and (I (a0 + 8) x1.toNat) (I (a0 + 7) x1.toNat) = 0) → -2147483648 ≤ x1 + 1 ∧ x1 + 1 ≤ 2147483647 := by intros; first | assumption | omega | (split <;> omega)) : L_X3_isC_22 d a0 x1 I S v h1 :=
  
  b_X3_isC_22  (fun (c1 : 3 ≤ x1) => ev_ret2 (r1 c1) (e1 c1) (b_X3_isC_51 )) (fun (c2 : x1 < 3) => 
    b_X3_isC_27 (ly_X3_13 hl0) (v1 c2) (ly_X3_12 hl0) (v1 c2) (fun (c3 : p_and (I (a0 + 8) x1.toNat) (I (a0 + 7) x1.toNat) = 0) => 
      b_X3_isC_45 (v2 c2 c3) ((k1 c2 c3))) (fun (c4 : p_and (I (a0 + 8) x1.toNat) (I (a0 + 7) x1.toNat) ≠ 0) => ev_ret2 (r2 c2 c4) (e2 c2 c4) (b_X3_isC_43 )))
end
