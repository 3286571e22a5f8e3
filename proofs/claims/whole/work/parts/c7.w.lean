noncomputable section
abbrev L_X12_isLed_16 (d : Nat) (a0 : Nat) (x1 : Int) (x2 : Int) (x3 : Int) (x4 : Int) (x5 : Int) (I : Nat → Nat → Int) (S : PS) (v : Int) (h1 : PM) : Prop := Ev (d + 5) mX12_isLed (16, [some (vR (some (22, 0, a0))), some (vI x1), some (vI x2), some (vI x3), some (vI x4), some (vI x5), none, none, none], [], (I, S)) (.inl (some (vI v)), h1)
abbrev L_X12_isLed_43 (d : Nat) (a0 : Nat) (x1 : Int) (x2 : Int) (x3 : Int) (x4 : Int) (x5 : Int) (x6 : Int) (x7 : Int) (x8 : Int) (I : Nat → Nat → Int) (S : PS) (v : Int) (h1 : PM) : Prop := Ev (d + 5) mX12_isLed (43, [some (vR (some (22, 0, a0))), some (vI x1), some (vI x2), some (vI x3), some (vI x4), some (vI x5), some (vI x6), some (vI x7), some (vI x8)], [], (I, S)) (.inl (some (vI v)), h1)
theorem w_X12_isLed_0 {d : Nat} {I : Nat → Nat → Int} {S : PS} {x1 x2 x3 : Int} {v : Int} {h1 : PM} (hl0 : LyX12 S)
    (k1 : L_X12_isLed_16 d 156 x1 x2 x3 (I 168 ((96 * x1) + x2).toNat) 0 I S v h1)
    (v1 : -2147483648 ≤ 96 * x1 ∧ 96 * x1 ≤ 2147483647 := by intros; first | assumption | omega | (split <;> omega))
    (v2 : -2147483648 ≤ (96 * x1) + x2 ∧ (96 * x1) + x2 ≤ 2147483647 := by intros; first | assumption | omega | (split <;> omega))
    (v3 : 0 ≤ (96 * x1) + x2 ∧ (96 * x1) + x2 < (384 : Nat) := by intros; first | assumption | omega | (split <;> omega)) : Ca (d + 5) mX12_isLed [vR (some (22, 0, 156)), vI x1, vI x2, vI x3] (I, S) (.inl (some (vI v))) h1 :=
  Ca.of rfl rfl (
  b_X12_isLed_0 (ly_X12_28 hl0) v1 v2 v3 (k1))
theorem w_X12_isLed_16 {d : Nat} {I : Nat → Nat → Int} {S : PS} {x1 x2 x3 x4 x5 : Int} {v : Int} {h1 : PM} (hl0 : LyX12 S)
    (k1 : (x5 < 3) → L_X12_isLed_43 d 156 x1 x2 x3 x4 x5 (pwI 4 ((((lrI I (I 159 ((20 * x1) + 9).toNat) x4 x5) 156 37) + 1) / 2).toNat) 1 0 (lrI I (I 159 ((20 * x1) + 9).toNat) x4 x5) S v h1)
    (r1 : (3 ≤ x5) → 0 = v)
    (e1 : (3 ≤ x5) → (I, S) = h1 := by intros; first | rfl | (exfalso; omega) | contradiction | (exfalso; simp_all; done))
    (v1 : (x5 < 3) → 0 ≤ x1 ∧ x1 < 4 := by intros; first | assumption | omega | (split <;> omega))
    (v2 : (x5 < 3) → 1 ≤ I 159 ((20 * x1) + 9).toNat ∧ I 159 ((20 * x1) + 9).toNat ≤ 7 := by intros; first | assumption | omega | (split <;> omega))
    (v3 : (x5 < 3) → 0 ≤ x5 ∧ x5 ≤ 2 := by intros; first | assumption | omega | (split <;> omega))
    (v4 : (x5 < 3) → 0 ≤ ((lrI I (I 159 ((20 * x1) + 9).toNat) x4 x5) 156 37) ∧ ((lrI I (I 159 ((20 * x1) + 9).toNat) x4 x5) 156 37) ≤ 7 := by intros; first | assumption | omega | (split <;> omega)) : L_X12_isLed_16 d 156 x1 x2 x3 x4 x5 I S v h1 :=
  
  b_X12_isLed_16  (fun (c1 : 3 ≤ x5) => ev_ret2 (r1 c1) (e1 c1) (b_X12_isLed_103 )) (fun (c2 : x5 < 3) => 
    b_X12_isLed_22  (c_X12_laysRuns hl0 (v1 c2) (v2 c2) (v3 c2)) (
    b_X12_isLed_31  (c_X12_waysOf hl0 (v4 c2)) (
    b_X12_isLed_35  ((k1 c2)))))
theorem w_X12_isLed_43 {d : Nat} {I : Nat → Nat → Int} {S : PS} {x1 x2 x3 x4 x5 x6 x7 x8 : Int} {J1 J2 : Nat → Nat → Int} {z1 z2 : Bool} {v : Int} {h1 : PM} (hl0 : LyX12 S)
    (k1 : (x6 ≤ x8) → (x7 = 0) → L_X12_isLed_16 d 156 x1 x2 x3 x4 (x5 + 1) I S v h1)
    (k2 : (x8 < x6) → (x7 = 0) → (x7 = 0) → L_X12_isLed_16 d 156 x1 x2 x3 x4 (x5 + 1) I S v h1)
    (g1 : (x8 < x6) → (x7 ≠ 0) → Ca (d + 4) mX12_isFence [vR (some (22, 0, 156)), vI x8] (I, S) (.inl (some (vI (if z1 = true then (1 : Int) else 0)))) (J1, S))
    (k3 : (x8 < x6) → (x7 ≠ 0) → (¬(z1 = true)) → L_X12_isLed_43 d 156 x1 x2 x3 x4 x5 x6 1 (x8 + 1) J1 S v h1)
    (g2 : (x8 < x6) → (x7 ≠ 0) → (z1 = true) → Ca (d + 4) mX12_isLower [vR (some (22, 0, 156)), vI x1, vI x4, vI x5, vI x3] (J1, S) (.inl (some (vI (if z2 = true then (1 : Int) else 0)))) (J2, S))
    (k4 : (x8 < x6) → (x7 ≠ 0) → (z1 = true) → L_X12_isLed_43 d 156 x1 x2 x3 x4 x5 x6 (if z2 = true then (1 : Int) else 0) (x8 + 1) J2 S v h1)
    (r1 : (x6 ≤ x8) → (x7 ≠ 0) → 1 = v)
    (e1 : (x6 ≤ x8) → (x7 ≠ 0) → (I, S) = h1 := by intros; first | rfl | (exfalso; omega) | contradiction | (exfalso; simp_all; done))
    (r2 : (x8 < x6) → (x7 = 0) → (x7 ≠ 0) → 1 = v)
    (e2 : (x8 < x6) → (x7 = 0) → (x7 ≠ 0) → (I, S) = h1 := by intros; first | rfl | (exfalso; omega) | contradiction | (exfalso; simp_all; done))
    (v1 : (x6 ≤ x8) → (x7 = 0) → -2147483648 ≤ x5 + 1 ∧ x5 + 1 ≤ 2147483647 := by intros; first | assumption | omega | (split <;> omega))
    (v2 : (x8 < x6) → (x7 = 0) → (x7 = 0) → -2147483648 ≤ x5 + 1 ∧ x5 + 1 ≤ 2147483647 := by intros; first | assumption | omega | (split <;> omega))
    (v3 : (x8 < x6) → (x7 ≠ 0) → (¬(z1 = true)) → -2147483648 ≤ x8 + 1 ∧ x8 + 1 ≤ 2147483647 := by intros; first | assumption | omega | (split <;> omega))
    (v4 : (x8 < x6) → (x7 ≠ 0) → (z1 = true) → -2147483648 ≤ x8 + 1 ∧ x8 + 1 ≤ 2147483647 := by intros; first | assumption | omega | (split <;> omega)) : L_X12_isLed_43 d 156 x1 x2 x3 x4 x5 x6 x7 x8 I S v h1 :=
  
  b_X12_isLed_43  (fun (c1 : x6 ≤ x8) => 
    b_X12_isLed_90  (fun (c3 : x7 = 0) => 
      b_X12_isLed_97 (v1 c1 c3) ((k1 c1 c3))) (fun (c4 : x7 ≠ 0) => ev_ret2 (r1 c1 c4) (e1 c1 c4) (b_X12_isLed_95 ))) (fun (c2 : x8 < x6) => 
    b_X12_isLed_50  (fun (c5 : x7 = 0) => 
      b_X12_isLed_90  (fun (c7 : x7 = 0) => 
        b_X12_isLed_97 (v2 c2 c5 c7) ((k2 c2 c5 c7))) (fun (c8 : x7 ≠ 0) => ev_ret2 (r2 c2 c5 c8) (e2 c2 c5 c8) (b_X12_isLed_95 ))) (fun (c6 : x7 ≠ 0) => 
      b_X12_isLed_55  (g1 c2 c6) (
      b_X12_isLed_61  (fun c9' => have c9 : ¬(z1 = true) := b2f c9'; 
        b_X12_isLed_77  (
        b_X12_isLed_82 (v3 c2 c6 c9) ((k3 c2 c6 c9)))) (fun c10' => have c10 : z1 = true := b2t c10'; 
        b_X12_isLed_64  (g2 c2 c6 c10) (
        have K12 : ∀ us0 : Int, us0 = (if z2 = true then (1 : Int) else 0) → Ev (d + 5) mX12_isLed (82, [some (vR (some (22, 0, 156))), some (vI x1), some (vI x2), some (vI x3), some (vI x4), some (vI x5), some (vI x6), some (vI x7), some (vI x8)], [vI us0], (J2, S)) (.inl (some (vI v)), h1) := fun us0 e_us0 => by subst e_us0; exact (
          b_X12_isLed_82 (v4 c2 c6 c10) ((k4 c2 c6 c10)))
        
        b_X12_isLed_74  (fun c11' => have c11 : ¬(z2 = true) := b2f c11'; 
          b_X12_isLed_81  (K12 0 (if_neg c11).symm)) (fun c12' => have c12 : z2 = true := b2t c12'; 
          b_X12_isLed_77  (K12 1 (if_pos c12).symm)))))))
abbrev L_X12_fences_9 (d : Nat) (a0 : Nat) (x1 : Int) (x2 : Int) (x3 : Int) (I : Nat → Nat → Int) (S : PS) (v : Int) (h1 : PM) : Prop := Ev (d + 3) mX12_fences (9, [some (vR (some (22, 0, a0))), some (vI x1), some (vI x2), some (vI x3)], [], (I, S)) (.inl (some (vI v)), h1)
theorem w_X12_fences_0 {d : Nat} {I : Nat → Nat → Int} {S : PS} {v : Int} {h1 : PM} (hl0 : LyX12 S)
    (k1 : L_X12_fences_9 d 156 0 (pwI 4 (((I 156 37) + 1) / 2).toNat) 0 I S v h1)
    (v1 : 0 ≤ (I 156 37) ∧ (I 156 37) ≤ 7 := by intros; first | assumption | omega | (split <;> omega)) : Ca (d + 3) mX12_fences [vR (some (22, 0, 156))] (I, S) (.inl (some (vI v))) h1 :=
  Ca.of rfl rfl (
  b_X12_fences_0  (c_X12_waysOf hl0 v1) (
  b_X12_fences_6  (k1)))
theorem w_X12_fences_9 {d : Nat} {I : Nat → Nat → Int} {S : PS} {x1 x2 x3 : Int} {J1 : Nat → Nat → Int} {z1 : Bool} {v : Int} {h1 : PM} (hl0 : LyX12 S)
    (g1 : (x3 < x2) → Ca (d + 2) mX12_isFence [vR (some (22, 0, 156)), vI x3] (I, S) (.inl (some (vI (if z1 = true then (1 : Int) else 0)))) (J1, S))
    (k1 : (x3 < x2) → L_X12_fences_9 d 156 (x1 + (if z1 = true then (1 : Int) else 0)) x2 (x3 + 1) J1 S v h1)
    (r1 : (x2 ≤ x3) → x1 = v)
    (e1 : (x2 ≤ x3) → (I, S) = h1 := by intros; first | rfl | (exfalso; omega) | contradiction | (exfalso; simp_all; done))
    (v1 : (x3 < x2) → -2147483648 ≤ x1 + (if z1 = true then (1 : Int) else 0) ∧ x1 + (if z1 = true then (1 : Int) else 0) ≤ 2147483647 := by intros; first | assumption | omega | (split <;> omega))
    (v2 : (x3 < x2) → -2147483648 ≤ x3 + 1 ∧ x3 + 1 ≤ 2147483647 := by intros; first | assumption | omega | (split <;> omega)) : L_X12_fences_9 d 156 x1 x2 x3 I S v h1 :=
  
  b_X12_fences_9  (fun (c1 : x2 ≤ x3) => ev_ret2 (r1 c1) (e1 c1) (b_X12_fences_36 )) (fun (c2 : x3 < x2) => 
    b_X12_fences_14  (g1 c2) (
    have K4 : ∀ us1 : Int, us1 = (if z1 = true then (1 : Int) else 0) → Ev (d + 3) mX12_fences (28, [some (vR (some (22, 0, 156))), some (vI x1), some (vI x2), some (vI x3)], [vI us1, vI x1], (J1, S)) (.inl (some (vI v)), h1) := fun us1 e_us1 => by subst e_us1; exact (
      b_X12_fences_28 (v1 c2) (v2 c2) ((k1 c2)))
    
    b_X12_fences_20  (fun c3' => have c3 : ¬(z1 = true) := b2f c3'; 
      b_X12_fences_27  (K4 0 (if_neg c3).symm)) (fun c4' => have c4 : z1 = true := b2t c4'; 
      b_X12_fences_23  (K4 1 (if_pos c4).symm))))
end
