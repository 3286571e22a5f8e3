noncomputable section
abbrev L_X12_smallNumber_30 (d : Nat) (a0 : Nat) (I : Nat → Nat → Int) (S : PS) (v : Int) (h1 : PM) : Prop := Ev (d + 4) mX12_smallNumber (30, [some (vR (some (22, 0, a0))), none], [], (I, S)) (.inl (some (vI v)), h1)
theorem w_X12_smallNumber_0 {d : Nat} {I : Nat → Nat → Int} {S : PS} {v : Int} {h1 : PM} (hl0 : LyX12 S)
    (k1 : (I 156 3 = 0) → (I 156 8 ≠ 2) → L_X12_smallNumber_30 d 156 (if I 156 3 = 0 then (up2 (up2 I 156 3 1) 156 4 (I 156 9)) else I) S v h1)
    (k2 : (I 156 3 = 0) → (I 156 8 = 2) → (I 156 10 ≤ 4) → L_X12_smallNumber_30 d 156 I S v h1)
    (k3 : (I 156 3 = 0) → (I 156 8 = 2) → (4 < I 156 10) → L_X12_smallNumber_30 d 156 (if I 156 3 = 0 then (up2 (up2 I 156 3 1) 156 4 (I 156 9)) else I) S v h1)
    (r1 : (¬(I 156 3 = 0)) → 0 = v)
    (e1 : (¬(I 156 3 = 0)) → (I, S) = h1 := by intros; first | rfl | (exfalso; omega) | contradiction | (exfalso; simp_all; done)) : Ca (d + 4) mX12_smallNumber [vR (some (22, 0, 156))] (I, S) (.inl (some (vI v))) h1 :=
  Ca.of rfl rfl (
  b_X12_smallNumber_0  (c_X12_isGood hl0) (
  b_X12_smallNumber_4  (fun c1' => have c1 : I 156 3 = 0 := b2t c1'; 
    b_X12_smallNumber_9  (fun (c3 : I 156 8 ≠ 2) => 
      b_X12_smallNumber_25  (c_X12_wrong hl0) ((k1 c1 c3))) (fun (c4 : I 156 8 = 2) => 
      b_X12_smallNumber_17  (fun (c5 : I 156 10 ≤ 4) => (k2 c1 c4 c5)) (fun (c6 : 4 < I 156 10) => 
        b_X12_smallNumber_25  (c_X12_wrong hl0) ((k3 c1 c4 c6))))) (fun c2' => have c2 : ¬(I 156 3 = 0) := b2f c2'; ev_ret2 (r1 c2) (e1 c2) (b_X12_smallNumber_7 ))))
theorem w_X12_smallNumber_30 {d : Nat} {I : Nat → Nat → Int} {S : PS} {J1 : Nat → Nat → Int} {v : Int} {h1 : PM} (hl0 : LyX12 S)
    (g1 : (I 156 3 = 0) → Ca (d + 3) mX12_goes [vR (some (22, 0, 156))] (I, S) (.inl none) (J1, S))
    (r1 : (¬(I 156 3 = 0)) → I 156 11 = v)
    (e1 : (¬(I 156 3 = 0)) → (I, S) = h1 := by intros; first | rfl | (exfalso; omega) | contradiction | (exfalso; simp_all; done))
    (r2 : (I 156 3 = 0) → I 156 11 = v)
    (e2 : (I 156 3 = 0) → (J1, S) = h1 := by intros; first | rfl | (exfalso; omega) | contradiction | (exfalso; simp_all; done)) : L_X12_smallNumber_30 d 156 I S v h1 :=
  
  b_X12_smallNumber_30  (c_X12_isGood hl0) (
  b_X12_smallNumber_39  (fun c1' => have c1 : ¬(I 156 3 = 0) := b2f c1'; ev_ret2 (r1 c1) (e1 c1) (b_X12_smallNumber_46 )) (fun c2' => have c2 : I 156 3 = 0 := b2t c2'; 
    b_X12_smallNumber_42  (g1 c2) (ev_ret2 (r2 c2) (e2 c2) (b_X12_smallNumber_46 ))))
abbrev L_X12_stepOf_21 (d : Nat) (a0 : Nat) (x1 : Int) (x2 : Int) (I : Nat → Nat → Int) (S : PS) (h1 : PM) : Prop := Ev (d + 6) mX12_stepOf (21, [some (vR (some (22, 0, a0))), some (vI x1), some (vI x2), none, none], [], (I, S)) (.inl none, h1)
abbrev L_X12_stepOf_29 (d : Nat) (a0 : Nat) (x1 : Int) (x2 : Int) (I : Nat → Nat → Int) (S : PS) (h1 : PM) : Prop := Ev (d + 6) mX12_stepOf (29, [some (vR (some (22, 0, a0))), some (vI x1), some (vI x2), none, none], [], (I, S)) (.inl none, h1)
abbrev L_X12_stepOf_33 (d : Nat) (a0 : Nat) (x1 : Int) (x2 : Int) (I : Nat → Nat → Int) (S : PS) (h1 : PM) : Prop := Ev (d + 6) mX12_stepOf (33, [some (vR (some (22, 0, a0))), some (vI x1), some (vI x2), none, none], [], (I, S)) (.inl none, h1)
abbrev L_X12_stepOf_90 (d : Nat) (a0 : Nat) (x1 : Int) (x2 : Int) (x3 : Int) (x4 : Int) (I : Nat → Nat → Int) (S : PS) (h1 : PM) : Prop := Ev (d + 6) mX12_stepOf (90, [some (vR (some (22, 0, a0))), some (vI x1), some (vI x2), some (vI x3), some (vI x4)], [], (I, S)) (.inl none, h1)
abbrev L_X12_stepOf_98 (d : Nat) (a0 : Nat) (x1 : Int) (x2 : Int) (x3 : Int) (x4 : Int) (I : Nat → Nat → Int) (S : PS) (h1 : PM) : Prop := Ev (d + 6) mX12_stepOf (98, [some (vR (some (22, 0, a0))), some (vI x1), some (vI x2), some (vI x3), some (vI x4)], [], (I, S)) (.inl none, h1)
theorem w_X12_stepOf_0 {d : Nat} {I : Nat → Nat → Int} {S : PS} {h1 : PM} (hl0 : LyX12 S)
    (k1 : (8 ≤ (kwM I)) → L_X12_stepOf_21 d 156 (I 156 9) (kwM I) I S h1)
    (k2 : ((kwM I) < 8) → L_X12_stepOf_21 d 156 (I 156 9) (kwM I) (if I 156 3 = 0 then (up2 (up2 I 156 3 1) 156 4 (I 156 9)) else I) S h1) : Ca (d + 6) mX12_stepOf [vR (some (22, 0, 156))] (I, S) (.inl none) h1 :=
  Ca.of rfl rfl (
  b_X12_stepOf_0  (c_X12_knownWord hl0) (
  b_X12_stepOf_9  (fun (c1 : 8 ≤ (kwM I)) => (k1 c1)) (fun (c2 : (kwM I) < 8) => 
    b_X12_stepOf_16  (c_X12_wrong hl0) ((k2 c2)))))
theorem w_X12_stepOf_21 {d : Nat} {I : Nat → Nat → Int} {S : PS} {x1 x2 : Int} {h1 : PM} (hl0 : LyX12 S)
    (k1 : (I 156 3 = 0) → L_X12_stepOf_29 d 156 x1 x2 I S h1)
    (e1 : (¬(I 156 3 = 0)) → (I, S) = h1 := by intros; first | rfl | (exfalso; omega) | contradiction | (exfalso; simp_all; done)) : L_X12_stepOf_21 d 156 x1 x2 I S h1 :=
  
  b_X12_stepOf_21  (c_X12_isGood hl0) (
  b_X12_stepOf_25  (fun c1' => have c1 : I 156 3 = 0 := b2t c1'; (k1 c1)) (fun c2' => have c2 : ¬(I 156 3 = 0) := b2f c2'; ev_retV (e1 c2) (b_X12_stepOf_28 )))
theorem w_X12_stepOf_29 {d : Nat} {I : Nat → Nat → Int} {S : PS} {x1 x2 : Int} {J1 : Nat → Nat → Int} {h1 : PM} (hl0 : LyX12 S)
    (g1 : Ca (d + 5) mX12_goes [vR (some (22, 0, 156))] (I, S) (.inl none) (J1, S))
    (k1 : L_X12_stepOf_33 d 156 x1 x2 J1 S h1) : L_X12_stepOf_29 d 156 x1 x2 I S h1 :=
  
  b_X12_stepOf_29  g1 (k1)
theorem w_X12_stepOf_33 {d : Nat} {I : Nat → Nat → Int} {S : PS} {x1 x2 z1 z2 z3 z4 z5 : Int} {J1 J2 J3 J4 J5 : Nat → Nat → Int} {h1 : PM} (hl0 : LyX12 S)
    (g1 : (10 < x2) → (x2 = 8) → Ca (d + 5) mX12_smallNumber [vR (some (22, 0, 156))] (I, S) (.inl (some (vI z1))) (J1, S))
    (k1 : (10 < x2) → (x2 = 8) → (¬(J1 156 3 = 0)) → L_X12_stepOf_90 d 156 x1 x2 0 z1 J1 S h1)
    (k2 : (10 < x2) → (x2 = 8) → (J1 156 3 = 0) → (J1 156 8 = 3) → L_X12_stepOf_90 d 156 x1 x2 0 z1 J1 S h1)
    (k3 : (10 < x2) → (x2 = 8) → (J1 156 3 = 0) → (J1 156 8 ≠ 3) → L_X12_stepOf_90 d 156 x1 x2 0 z1 (if J1 156 3 = 0 then (up2 (up2 J1 156 3 1) 156 4 (J1 156 9)) else J1) S h1)
    (k4 : (10 < x2) → (x2 ≠ 8) → (x2 ≠ 10) → (¬(I 156 3 = 0)) → L_X12_stepOf_90 d 156 x1 x2 0 0 I S h1)
    (k5 : (10 < x2) → (x2 ≠ 8) → (x2 ≠ 10) → (I 156 3 = 0) → (I 156 8 = 3) → L_X12_stepOf_90 d 156 x1 x2 0 0 I S h1)
    (k6 : (10 < x2) → (x2 ≠ 8) → (x2 ≠ 10) → (I 156 3 = 0) → (I 156 8 ≠ 3) → L_X12_stepOf_90 d 156 x1 x2 0 0 (if I 156 3 = 0 then (up2 (up2 I 156 3 1) 156 4 (I 156 9)) else I) S h1)
    (g2 : (10 < x2) → (x2 ≠ 8) → (x2 = 10) → Ca (d + 5) mX12_smallNumber [vR (some (22, 0, 156))] (I, S) (.inl (some (vI z2))) (J2, S))
    (k7 : (10 < x2) → (x2 ≠ 8) → (x2 = 10) → (¬(J2 156 3 = 0)) → L_X12_stepOf_90 d 156 x1 x2 0 z2 J2 S h1)
    (k8 : (10 < x2) → (x2 ≠ 8) → (x2 = 10) → (J2 156 3 = 0) → (J2 156 8 = 3) → L_X12_stepOf_90 d 156 x1 x2 0 z2 J2 S h1)
    (k9 : (10 < x2) → (x2 ≠ 8) → (x2 = 10) → (J2 156 3 = 0) → (J2 156 8 ≠ 3) → L_X12_stepOf_90 d 156 x1 x2 0 z2 (if J2 156 3 = 0 then (up2 (up2 J2 156 3 1) 156 4 (J2 156 9)) else J2) S h1)
    (g3 : (x2 ≤ 10) → Ca (d + 5) mX12_smallNumber [vR (some (22, 0, 156))] (I, S) (.inl (some (vI z3))) (J3, S))
    (g4 : (x2 ≤ 10) → (x2 = 8) → Ca (d + 5) mX12_smallNumber [vR (some (22, 0, 156))] (J3, S) (.inl (some (vI z4))) (J4, S))
    (k10 : (x2 ≤ 10) → (x2 = 8) → (¬(J4 156 3 = 0)) → L_X12_stepOf_90 d 156 x1 x2 z3 z4 J4 S h1)
    (k11 : (x2 ≤ 10) → (x2 = 8) → (J4 156 3 = 0) → (J4 156 8 = 3) → L_X12_stepOf_90 d 156 x1 x2 z3 z4 J4 S h1)
    (k12 : (x2 ≤ 10) → (x2 = 8) → (J4 156 3 = 0) → (J4 156 8 ≠ 3) → L_X12_stepOf_90 d 156 x1 x2 z3 z4 (if J4 156 3 = 0 then (up2 (up2 J4 156 3 1) 156 4 (J4 156 9)) else J4) S h1)
    (k13 : (x2 ≤ 10) → (x2 ≠ 8) → (x2 ≠ 10) → (¬(J3 156 3 = 0)) → L_X12_stepOf_90 d 156 x1 x2 z3 0 J3 S h1)
    (k14 : (x2 ≤ 10) → (x2 ≠ 8) → (x2 ≠ 10) → (J3 156 3 = 0) → (J3 156 8 = 3) → L_X12_stepOf_90 d 156 x1 x2 z3 0 J3 S h1)
    (k15 : (x2 ≤ 10) → (x2 ≠ 8) → (x2 ≠ 10) → (J3 156 3 = 0) → (J3 156 8 ≠ 3) → L_X12_stepOf_90 d 156 x1 x2 z3 0 (if J3 156 3 = 0 then (up2 (up2 J3 156 3 1) 156 4 (J3 156 9)) else J3) S h1)
    (g5 : (x2 ≤ 10) → (x2 ≠ 8) → (x2 = 10) → Ca (d + 5) mX12_smallNumber [vR (some (22, 0, 156))] (J3, S) (.inl (some (vI z5))) (J5, S))
    (k16 : (x2 ≤ 10) → (x2 ≠ 8) → (x2 = 10) → (¬(J5 156 3 = 0)) → L_X12_stepOf_90 d 156 x1 x2 z3 z5 J5 S h1)
    (k17 : (x2 ≤ 10) → (x2 ≠ 8) → (x2 = 10) → (J5 156 3 = 0) → (J5 156 8 = 3) → L_X12_stepOf_90 d 156 x1 x2 z3 z5 J5 S h1)
    (k18 : (x2 ≤ 10) → (x2 ≠ 8) → (x2 = 10) → (J5 156 3 = 0) → (J5 156 8 ≠ 3) → L_X12_stepOf_90 d 156 x1 x2 z3 z5 (if J5 156 3 = 0 then (up2 (up2 J5 156 3 1) 156 4 (J5 156 9)) else J5) S h1) : L_X12_stepOf_33 d 156 x1 x2 I S h1 :=
  
  b_X12_stepOf_33  (fun (c1 : 10 < x2) => 
    b_X12_stepOf_46  (
    b_X12_stepOf_47  (fun (c3 : x2 = 8) => 
      b_X12_stepOf_60  (g1 c1 c3) (
      b_X12_stepOf_64  (
      b_X12_stepOf_68  (c_X12_isGood hl0) (
      b_X12_stepOf_74  (fun c5' => have c5 : ¬(J1 156 3 = 0) := b2f c5'; (k1 c1 c3 c5)) (fun c6' => have c6 : J1 156 3 = 0 := b2t c6'; 
        b_X12_stepOf_77  (fun (c7 : J1 156 8 = 3) => (k2 c1 c3 c6 c7)) (fun (c8 : J1 156 8 ≠ 3) => 
          b_X12_stepOf_85  (c_X12_wrong hl0) ((k3 c1 c3 c6 c8)))))))) (fun (c4 : x2 ≠ 8) => 
      b_X12_stepOf_54  (fun (c9 : x2 ≠ 10) => 
        b_X12_stepOf_67  (
        b_X12_stepOf_68  (c_X12_isGood hl0) (
        b_X12_stepOf_74  (fun c11' => have c11 : ¬(I 156 3 = 0) := b2f c11'; (k4 c1 c4 c9 c11)) (fun c12' => have c12 : I 156 3 = 0 := b2t c12'; 
          b_X12_stepOf_77  (fun (c13 : I 156 8 = 3) => (k5 c1 c4 c9 c12 c13)) (fun (c14 : I 156 8 ≠ 3) => 
            b_X12_stepOf_85  (c_X12_wrong hl0) ((k6 c1 c4 c9 c12 c14))))))) (fun (c10 : x2 = 10) => 
        b_X12_stepOf_60  (g2 c1 c4 c10) (
        b_X12_stepOf_64  (
        b_X12_stepOf_68  (c_X12_isGood hl0) (
        b_X12_stepOf_74  (fun c15' => have c15 : ¬(J2 156 3 = 0) := b2f c15'; (k7 c1 c4 c10 c15)) (fun c16' => have c16 : J2 156 3 = 0 := b2t c16'; 
          b_X12_stepOf_77  (fun (c17 : J2 156 8 = 3) => (k8 c1 c4 c10 c16 c17)) (fun (c18 : J2 156 8 ≠ 3) => 
            b_X12_stepOf_85  (c_X12_wrong hl0) ((k9 c1 c4 c10 c16 c18))))))))))) (fun (c2 : x2 ≤ 10) => 
    b_X12_stepOf_39  (g3 c2) (
    b_X12_stepOf_43  (
    b_X12_stepOf_47  (fun (c19 : x2 = 8) => 
      b_X12_stepOf_60  (g4 c2 c19) (
      b_X12_stepOf_64  (
      b_X12_stepOf_68  (c_X12_isGood hl0) (
      b_X12_stepOf_74  (fun c21' => have c21 : ¬(J4 156 3 = 0) := b2f c21'; (k10 c2 c19 c21)) (fun c22' => have c22 : J4 156 3 = 0 := b2t c22'; 
        b_X12_stepOf_77  (fun (c23 : J4 156 8 = 3) => (k11 c2 c19 c22 c23)) (fun (c24 : J4 156 8 ≠ 3) => 
          b_X12_stepOf_85  (c_X12_wrong hl0) ((k12 c2 c19 c22 c24)))))))) (fun (c20 : x2 ≠ 8) => 
      b_X12_stepOf_54  (fun (c25 : x2 ≠ 10) => 
        b_X12_stepOf_67  (
        b_X12_stepOf_68  (c_X12_isGood hl0) (
        b_X12_stepOf_74  (fun c27' => have c27 : ¬(J3 156 3 = 0) := b2f c27'; (k13 c2 c20 c25 c27)) (fun c28' => have c28 : J3 156 3 = 0 := b2t c28'; 
          b_X12_stepOf_77  (fun (c29 : J3 156 8 = 3) => (k14 c2 c20 c25 c28 c29)) (fun (c30 : J3 156 8 ≠ 3) => 
            b_X12_stepOf_85  (c_X12_wrong hl0) ((k15 c2 c20 c25 c28 c30))))))) (fun (c26 : x2 = 10) => 
        b_X12_stepOf_60  (g5 c2 c20 c26) (
        b_X12_stepOf_64  (
        b_X12_stepOf_68  (c_X12_isGood hl0) (
        b_X12_stepOf_74  (fun c31' => have c31 : ¬(J5 156 3 = 0) := b2f c31'; (k16 c2 c20 c26 c31)) (fun c32' => have c32 : J5 156 3 = 0 := b2t c32'; 
          b_X12_stepOf_77  (fun (c33 : J5 156 8 = 3) => (k17 c2 c20 c26 c32 c33)) (fun (c34 : J5 156 8 ≠ 3) => 
            b_X12_stepOf_85  (c_X12_wrong hl0) ((k18 c2 c20 c26 c32 c34))))))))))))
theorem w_X12_stepOf_90 {d : Nat} {I : Nat → Nat → Int} {S : PS} {x1 x2 x3 x4 : Int} {h1 : PM} (hl0 : LyX12 S)
    (k1 : (I 156 3 = 0) → L_X12_stepOf_98 d 156 x1 x2 x3 x4 I S h1)
    (e1 : (¬(I 156 3 = 0)) → (I, S) = h1 := by intros; first | rfl | (exfalso; omega) | contradiction | (exfalso; simp_all; done)) : L_X12_stepOf_90 d 156 x1 x2 x3 x4 I S h1 :=
  
  b_X12_stepOf_90  (c_X12_isGood hl0) (
  b_X12_stepOf_94  (fun c1' => have c1 : I 156 3 = 0 := b2t c1'; (k1 c1)) (fun c2' => have c2 : ¬(I 156 3 = 0) := b2f c2'; ev_retV (e1 c2) (b_X12_stepOf_97 )))
theorem w_X12_stepOf_98 {d : Nat} {I : Nat → Nat → Int} {S : PS} {x1 x2 x3 x4 : Int} {J1 J2 : Nat → Nat → Int} {z1 : Bool} {h1 : PM} (hl0 : LyX12 S)
    (g1 : Ca (d + 5) mX12_isDone [vR (some (22, 0, 156)), vI x2, vI x3, vI x4] (I, S) (.inl (some (vI (if z1 = true then (1 : Int) else 0)))) (J1, S))
    (g2 : (z1 = true) → Ca (d + 5) mX12_goes [vR (some (22, 0, 156))] ((up2 J1 156 51 (J1 156 51 + 1)), S) (.inl none) (J2, S))
    (e1 : (z1 = true) → (J2, S) = h1 := by intros; first | rfl | (exfalso; omega) | contradiction | (exfalso; simp_all; done))
    (e2 : (¬(z1 = true)) → ((up2 (up2 J1 156 3 1) 156 55 x1), S) = h1 := by intros; first | rfl | (exfalso; omega) | contradiction | (exfalso; simp_all; done))
    (v1 : (z1 = true) → -2147483648 ≤ J1 156 51 + 1 ∧ J1 156 51 + 1 ≤ 2147483647 := by intros; first | assumption | omega | (split <;> omega)) : L_X12_stepOf_98 d 156 x1 x2 x3 x4 I S h1 :=
  
  b_X12_stepOf_98  g1 (
  b_X12_stepOf_106  (fun c1' => have c1 : z1 = true := b2t c1'; 
    b_X12_stepOf_120 (v1 c1) (g2 c1) (ev_retV (e1 c1) (b_X12_stepOf_134 ))) (fun c2' => have c2 : ¬(z1 = true) := b2f c2'; ev_retV (e2 c2) (b_X12_stepOf_109 )))
theorem w_X4_perform_0 {d : Nat} {I : Nat → Nat → Int} {S : PS} {a1 : Nat} {x2 x3 x4 : Int} {J1 : Nat → Nat → Int} {z1 : Bool} {v : Int} {h1 : PM} (hl0 : LyX4 S) (hl1 : LyX0 S a1)
    (g1 : (x2 ≠ 3) → (x2 ≠ 4) → Ca (d + 2) mX2_attempt [vR (some (13, 0, 148)), vR (some (11, 0, a1)), vI x2, vI x3, vI x4] (I, S) (.inl (some (vI (if z1 = true then (1 : Int) else 0)))) (J1, S))
    (r1 : (x2 ≠ 3) → (x2 ≠ 4) → (if z1 = true then (1 : Int) else 0) = v := by intros; first | rfl | (exfalso; omega) | contradiction | (exfalso; simp_all; done))
    (e1 : (x2 ≠ 3) → (x2 ≠ 4) → (J1, S) = h1 := by intros; first | rfl | (exfalso; omega) | contradiction | (exfalso; simp_all; done))
    (r2 : (x2 ≠ 3) → (x2 = 4) → (1 < I 147 3) → 1 = v := by intros; first | rfl | (exfalso; omega) | contradiction | (exfalso; simp_all; done))
    (e2 : (x2 ≠ 3) → (x2 = 4) → (1 < I 147 3) → ((if 1 ≤ I 147 3 then (up2 (cpyI (up2 I 147 3 (I 147 3 - 1)) 150 (((I 147 3 - 1) * 4).toNat) 149 0 4) 147 5 (I 151 (I 147 3 - 1).toNat)) else I), S) = h1 := by intros; first | rfl | (exfalso; omega) | contradiction | (exfalso; simp_all; done))
    (r3 : (x2 ≠ 3) → (x2 = 4) → (I 147 3 ≤ 1) → 0 = v := by intros; first | rfl | (exfalso; omega) | contradiction | (exfalso; simp_all; done))
    (e3 : (x2 ≠ 3) → (x2 = 4) → (I 147 3 ≤ 1) → (I, S) = h1 := by intros; first | rfl | (exfalso; omega) | contradiction | (exfalso; simp_all; done))
    (r4 : (x2 = 3) → ((I 147 3 < 8)) → 1 = v := by intros; first | rfl | (exfalso; omega) | contradiction | (exfalso; simp_all; done))
    (e4 : (x2 = 3) → ((I 147 3 < 8)) → ((up2 (up2 (up2 (up2 (cpyI I 149 0 150 (((I 147 3) * 4).toNat) 4) 151 ((I 147 3).toNat) (I 147 4)) 147 4 (I 147 4 + 1)) 147 3 (I 147 3 + 1)) 147 10 (p_max (I 147 10) (I 147 3 + 1))), S) = h1 := by intros; first | rfl | (exfalso; omega) | contradiction | (exfalso; simp_all; done))
    (r5 : (x2 = 3) → (¬(I 147 3 < 8)) → 0 = v := by intros; first | rfl | (exfalso; omega) | contradiction | (exfalso; simp_all; done))
    (e5 : (x2 = 3) → (¬(I 147 3 < 8)) → (I, S) = h1 := by intros; first | rfl | (exfalso; omega) | contradiction | (exfalso; simp_all; done))
    (v1 : (x2 ≠ 3) → (x2 = 4) → (1 < I 147 3) → (1 ≤ I 147 3) → -2147483648 ≤ I 147 3 - 1 ∧ I 147 3 - 1 ≤ 2147483647 := by intros; first | assumption | omega | (split <;> omega))
    (v2 : (x2 ≠ 3) → (x2 = 4) → (1 < I 147 3) → (1 ≤ I 147 3) → -2147483648 ≤ (I 147 3 - 1) * 4 ∧ (I 147 3 - 1) * 4 ≤ 2147483647 := by intros; first | assumption | omega | (split <;> omega))
    (v3 : (x2 ≠ 3) → (x2 = 4) → (1 < I 147 3) → (1 ≤ I 147 3) → 0 ≤ (I 147 3 - 1) * 4 := by intros; first | assumption | omega | (split <;> omega))
    (v4 : (x2 ≠ 3) → (x2 = 4) → (1 < I 147 3) → (1 ≤ I 147 3) → (I 147 3 - 1) * 4 + 4 ≤ (32 : Nat) := by intros; first | assumption | omega | (split <;> omega))
    (v5 : (x2 ≠ 3) → (x2 = 4) → (1 < I 147 3) → (1 ≤ I 147 3) → 0 ≤ (I 147 3 - 1) ∧ (I 147 3 - 1) < (8 : Nat) := by intros; first | assumption | omega | (split <;> omega))
    (v6 : (x2 = 3) → (I 147 3 < 8) → -2147483648 ≤ (I 147 3) * 4 ∧ (I 147 3) * 4 ≤ 2147483647 := by intros; first | assumption | omega | (split <;> omega))
    (v7 : (x2 = 3) → (I 147 3 < 8) → 0 ≤ (I 147 3) * 4 := by intros; first | assumption | omega | (split <;> omega))
    (v8 : (x2 = 3) → (I 147 3 < 8) → (I 147 3) * 4 + 4 ≤ (32 : Nat) := by intros; first | assumption | omega | (split <;> omega))
    (v9 : (x2 = 3) → (I 147 3 < 8) → 0 ≤ I 147 3 ∧ I 147 3 < (8 : Nat) := by intros; first | assumption | omega | (split <;> omega))
    (v10 : (x2 = 3) → (I 147 3 < 8) → -2147483648 ≤ I 147 4 + 1 ∧ I 147 4 + 1 ≤ 2147483647 := by intros; first | assumption | omega | (split <;> omega))
    (v11 : (x2 = 3) → (I 147 3 < 8) → -2147483648 ≤ I 147 3 + 1 ∧ I 147 3 + 1 ≤ 2147483647 := by intros; first | assumption | omega | (split <;> omega)) : Ca (d + 3) mX4_perform [vR (some (15, 0, 147)), vR (some (11, 0, a1)), vI x2, vI x3, vI x4] (I, S) (.inl (some (vI v))) h1 :=
  Ca.of rfl rfl (
  b_X4_perform_0  (fun (c1 : x2 ≠ 3) => 
    b_X4_perform_10  (fun (c3 : x2 ≠ 4) => 
      b_X4_perform_31 (ly_X4_0 hl0) (g1 c1 c3) (ev_ret2 (r1 c1 c3) (e1 c1 c3) (b_X4_perform_43 (ite01 _)))) (fun (c4 : x2 = 4) => 
      b_X4_perform_15  (fun (c5 : 1 < I 147 3) => 
        b_X4_perform_25  (c_X4_takeOff hl0 (v1 c1 c4 c5) (v2 c1 c4 c5) (v3 c1 c4 c5) (v4 c1 c4 c5) (v5 c1 c4 c5)) (ev_ret2 (r2 c1 c4 c5) (e2 c1 c4 c5) (b_X4_perform_29 ))) (fun (c6 : I 147 3 ≤ 1) => ev_ret2 (r3 c1 c4 c6) (e3 c1 c4 c6) (b_X4_perform_23 )))) (fun (c2 : x2 = 3) => 
    (Classical.em ((I 147 3 < 8))).elim (fun c7 => 
      b_X4_perform_5  (c_X4_lay_y hl0 (v6 c2) (v7 c2) (v8 c2) (v9 c2) (v10 c2) (v11 c2) c7) (ev_ret2 (r4 c2 c7) (e4 c2 c7) (b_X4_perform_9 (Or.inr rfl)))) (fun c8 => 
      b_X4_perform_5  (c_X4_lay_n hl0 (v6 c2) (v7 c2) (v8 c2) (v9 c2) (v10 c2) (v11 c2) c8) (ev_ret2 (r5 c2 c8) (e5 c2 c8) (b_X4_perform_9 (Or.inl rfl))))))
abbrev L_X4_takeStep_35 (d : Nat) (a0 : Nat) (a1 : Nat) (a2 : Nat) (x3 : Int) (x4 : Int) (x5 : Int) (x6 : Int) (x7 : Int) (x8 : Int) (I : Nat → Nat → Int) (S : PS) (v : Int) (h1 : PM) : Prop := Ev (d + 7) mX4_takeStep (35, [some (vR (some (15, 0, a0))), some (vR (some (20, 0, a1))), some (vR (some (11, 0, a2))), some (vI x3), some (vI x4), some (vI x5), some (vI x6), some (vI x7), some (vI x8)], [], (I, S)) (.inl (some (vI v)), h1)
theorem w_X4_takeStep_0 {d : Nat} {I : Nat → Nat → Int} {S : PS} {a2 : Nat} {v : Int} {h1 : PM} (hl0 : LyX4 S) (hl1 : LyX10 S) (hl2 : LyX0 S a2)
    (k1 : ((if ¬(iwC I 5 20 = true) then ((if ¬(iwC I 4 22 = true) then ((if ¬(iwC I 4 24 = true) then ((if ¬(iwC I 5 26 = true) then ((if ¬(iwC I 3 28 = true) then ((-1) : Int) else 4) : Int) else 3) : Int) else 2) : Int) else 1) : Int) else 0) ≠ (-1)) → L_X4_takeStep_35 d 147 32 a2 (I 32 4) (if ¬(iwC I 5 20 = true) then ((if ¬(iwC I 4 22 = true) then ((if ¬(iwC I 4 24 = true) then ((if ¬(iwC I 5 26 = true) then ((if ¬(iwC I 3 28 = true) then ((-1) : Int) else 4) : Int) else 3) : Int) else 2) : Int) else 1) : Int) else 0) 0 0 (if (if ¬(iwC I 5 20 = true) then ((if ¬(iwC I 4 22 = true) then ((if ¬(iwC I 4 24 = true) then ((if ¬(iwC I 5 26 = true) then ((if ¬(iwC I 3 28 = true) then ((-1) : Int) else 4) : Int) else 3) : Int) else 2) : Int) else 1) : Int) else 0) = 0 then (2 : Int) else (if (if ¬(iwC I 5 20 = true) then ((if ¬(iwC I 4 22 = true) then ((if ¬(iwC I 4 24 = true) then ((if ¬(iwC I 5 26 = true) then ((if ¬(iwC I 3 28 = true) then ((-1) : Int) else 4) : Int) else 3) : Int) else 2) : Int) else 1) : Int) else 0) ≠ 2 then ((if (if ¬(iwC I 5 20 = true) then ((if ¬(iwC I 4 22 = true) then ((if ¬(iwC I 4 24 = true) then ((if ¬(iwC I 5 26 = true) then ((if ¬(iwC I 3 28 = true) then ((-1) : Int) else 4) : Int) else 3) : Int) else 2) : Int) else 1) : Int) else 0) = 1 then (1 : Int) else 0) : Int) else 2)) 0 I S v h1)
    (r1 : ((if ¬(iwC I 5 20 = true) then ((if ¬(iwC I 4 22 = true) then ((if ¬(iwC I 4 24 = true) then ((if ¬(iwC I 5 26 = true) then ((if ¬(iwC I 3 28 = true) then ((-1) : Int) else 4) : Int) else 3) : Int) else 2) : Int) else 1) : Int) else 0) = (-1)) → I 32 4 = v)
    (e1 : ((if ¬(iwC I 5 20 = true) then ((if ¬(iwC I 4 22 = true) then ((if ¬(iwC I 4 24 = true) then ((if ¬(iwC I 5 26 = true) then ((if ¬(iwC I 3 28 = true) then ((-1) : Int) else 4) : Int) else 3) : Int) else 2) : Int) else 1) : Int) else 0) = (-1)) → (I, S) = h1 := by intros; first | rfl | (exfalso; omega) | contradiction | (exfalso; simp_all; done))
    (v1 : strs I S := by intros; first | assumption | omega | (split <;> omega))
    (v2 : 0 ≤ I 32 4 ∧ I 32 4 ≤ 700 ∧ 0 ≤ I 32 2 ∧ I 32 2 ≤ 700 := by intros; first | assumption | omega | (split <;> omega)) : Ca (d + 7) mX4_takeStep [vR (some (15, 0, 147)), vR (some (20, 0, 32)), vR (some (11, 0, a2))] (I, S) (.inl (some (vI v))) h1 :=
  Ca.of rfl rfl (
  b_X4_takeStep_0  (c_X4_deedOf hl1 v1 v2) (
  b_X4_takeStep_9  (fun (c1 : (if ¬(iwC I 5 20 = true) then ((if ¬(iwC I 4 22 = true) then ((if ¬(iwC I 4 24 = true) then ((if ¬(iwC I 5 26 = true) then ((if ¬(iwC I 3 28 = true) then ((-1) : Int) else 4) : Int) else 3) : Int) else 2) : Int) else 1) : Int) else 0) ≠ (-1)) => 
    b_X4_takeStep_19  c_X4_numbersOf (
    b_X4_takeStep_30  ((k1 c1)))) (fun (c2 : (if ¬(iwC I 5 20 = true) then ((if ¬(iwC I 4 22 = true) then ((if ¬(iwC I 4 24 = true) then ((if ¬(iwC I 5 26 = true) then ((if ¬(iwC I 3 28 = true) then ((-1) : Int) else 4) : Int) else 3) : Int) else 2) : Int) else 1) : Int) else 0) = (-1)) => ev_ret2 (r1 c2) (e1 c2) (b_X4_takeStep_17 ))))
theorem w_X4_takeStep_35 {d : Nat} {I : Nat → Nat → Int} {S : PS} {a2 : Nat} {x3 x4 x5 x6 x7 x8 : Int} {J1 J2 J3 : Nat → Nat → Int} {z2 : Bool} {v : Int} {h1 : PM} (hl0 : LyX4 S) (hl1 : LyX10 S) (hl2 : LyX0 S a2)
    (g1 : (x7 ≤ x8) → Ca (d + 6) mX10_advance [vR (some (20, 0, 32))] (I, S) (.inl none) (J1, S))
    (g2 : (x7 ≤ x8) → (J1 32 3 = 3) → Ca (d + 6) mX4_perform [vR (some (15, 0, 147)), vR (some (11, 0, a2)), vI x4, vI x5, vI x6] (J1, S) (.inl (some (vI (if z2 = true then (1 : Int) else 0)))) (J2, S))
    (g3 : (x8 < x7) → Ca (d + 6) mX10_advance [vR (some (20, 0, 32))] (I, S) (.inl none) (J3, S))
    (k1 : (x8 < x7) → (J3 32 3 = 2) → (J3 32 5 ≠ 10000) → L_X4_takeStep_35 d 147 32 a2 x3 x4 (if x8 ≠ 0 then (x5 : Int) else J3 32 5) (if x8 ≠ 0 then (J3 32 5 : Int) else x6) x7 (x8 + 1) J3 S v h1)
    (r1 : (x7 ≤ x8) → (J1 32 3 = 3) → (if ¬(z2 = true) then (x3 : Int) else (-1)) = v)
    (e1 : (x7 ≤ x8) → (J1 32 3 = 3) → (J2, S) = h1 := by intros; first | rfl | (exfalso; omega) | contradiction | (exfalso; simp_all; done))
    (r2 : (x7 ≤ x8) → (J1 32 3 ≠ 3) → J1 32 4 = v)
    (e2 : (x7 ≤ x8) → (J1 32 3 ≠ 3) → (J1, S) = h1 := by intros; first | rfl | (exfalso; omega) | contradiction | (exfalso; simp_all; done))
    (r3 : (x8 < x7) → (J3 32 3 ≠ 2) → J3 32 4 = v)
    (e3 : (x8 < x7) → (J3 32 3 ≠ 2) → (J3, S) = h1 := by intros; first | rfl | (exfalso; omega) | contradiction | (exfalso; simp_all; done))
    (r4 : (x8 < x7) → (J3 32 3 = 2) → (J3 32 5 = 10000) → J3 32 4 = v)
    (e4 : (x8 < x7) → (J3 32 3 = 2) → (J3 32 5 = 10000) → (J3, S) = h1 := by intros; first | rfl | (exfalso; omega) | contradiction | (exfalso; simp_all; done))
    (v1 : (x8 < x7) → (J3 32 3 = 2) → (J3 32 5 ≠ 10000) → -2147483648 ≤ x8 + 1 ∧ x8 + 1 ≤ 2147483647 := by intros; first | assumption | omega | (split <;> omega)) : L_X4_takeStep_35 d 147 32 a2 x3 x4 x5 x6 x7 x8 I S v h1 :=
  
  b_X4_takeStep_35  (fun (c1 : x7 ≤ x8) => 
    b_X4_takeStep_95  (g1 c1) (
    b_X4_takeStep_99  (fun (c3 : J1 32 3 = 3) => 
      b_X4_takeStep_112  (g2 c1 c3) (
      have K6 : ∀ us0 : Int, us0 = (if ¬(z2 = true) then (x3 : Int) else (-1)) → Ev (d + 7) mX4_takeStep (131, [some (vR (some (15, 0, 147))), some (vR (some (20, 0, 32))), some (vR (some (11, 0, a2))), some (vI x3), some (vI x4), some (vI x5), some (vI x6), some (vI x7), some (vI x8)], [vI us0], (J2, S)) (.inl (some (vI v)), h1) := fun us0 e_us0 => by subst e_us0; exact (ev_ret2 (r1 c1 c3) (e1 c1 c3) (b_X4_takeStep_131 ))
      
      b_X4_takeStep_123  (fun c5' => have c5 : ¬(z2 = true) := b2f c5'; 
        b_X4_takeStep_130  (K6 x3 ((if_pos c5).symm))) (fun c6' => have c6 : z2 = true := b2t c6'; 
        b_X4_takeStep_126  (K6 (-1) ((if_neg (fun q => q c6)).symm))))) (fun (c4 : J1 32 3 ≠ 3) => ev_ret2 (r2 c1 c4) (e2 c1 c4) (b_X4_takeStep_107 )))) (fun (c2 : x8 < x7) => 
    b_X4_takeStep_42  (g3 c2) (
    b_X4_takeStep_46  (fun (c8 : J3 32 3 ≠ 2) => ev_ret2 (r3 c2 c8) (e3 c2 c8) (b_X4_takeStep_64 )) (fun (c9 : J3 32 3 = 2) => 
      b_X4_takeStep_54  (fun (c10 : J3 32 5 ≠ 10000) => 
        have K13 : ∀ u5 : Int, u5 = (if x8 ≠ 0 then (x5 : Int) else J3 32 5) → ∀ u6 : Int, u6 = (if x8 ≠ 0 then (J3 32 5 : Int) else x6) → Ev (d + 7) mX4_takeStep (89, [some (vR (some (15, 0, 147))), some (vR (some (20, 0, 32))), some (vR (some (11, 0, a2))), some (vI x3), some (vI x4), some (vI u5), some (vI u6), some (vI x7), some (vI x8)], [], (J3, S)) (.inl (some (vI v)), h1) := fun u5 e_u5 u6 e_u6 => by subst e_u5; exact by subst e_u6; exact (
          b_X4_takeStep_89 (v1 c2 c9 c10) ((k1 c2 c9 c10)))
        
        b_X4_takeStep_69  (fun (c12 : x8 ≠ 0) => 
          b_X4_takeStep_83  (K13 x5 ((if_pos c12).symm) (J3 32 5) ((if_pos c12).symm))) (fun (c13 : x8 = 0) => 
          b_X4_takeStep_74  (K13 (J3 32 5) ((if_neg (fun q => q c13)).symm) x6 ((if_neg (fun q => q c13)).symm)))) (fun (c11 : J3 32 5 = 10000) => ev_ret2 (r4 c2 c9 c11) (e4 c2 c9 c11) (b_X4_takeStep_64 )))))
abbrev L_X4_run_40 (d : Nat) (a0 : Nat) (a1 : Nat) (a2 : Nat) (a3 : Nat) (x4 : Int) (I : Nat → Nat → Int) (S : PS) (h1 : PM) : Prop := Ev (d + 9) mX4_run (40, [some (vR (some (15, 0, a0))), some (vR (some (20, 0, a1))), some (vR (some (11, 0, a2))), some (vR (some (13, 0, a3))), some (vI x4)], [], (I, S)) (.inl none, h1)
theorem w_X4_run_0 {d : Nat} {I : Nat → Nat → Int} {S : PS} {a2 a3 : Nat} {J1 J2 : Nat → Nat → Int} {h1 : PM} (hl0 : LyX4 S) (hl1 : LyX10 S) (hl2 : LyX0 S a2) (hl3 : LyX2 S a3)
    (g1 : (((cpyI I (a3 + 1) 0 (148 + 1) 0 4) 147 3 < 8)) → Ca (d + 8) mX10_advance [vR (some (20, 0, 32))] ((up2 (up2 (up2 (up2 (cpyI (up2 (up2 (up2 (up2 (cpyI I (a3 + 1) 0 (148 + 1) 0 4) 147 6 1) 147 7 0) 147 8 (-1)) 147 10 0) 149 0 150 ((((cpyI I (a3 + 1) 0 (148 + 1) 0 4) 147 3) * 4).toNat) 4) 151 (((cpyI I (a3 + 1) 0 (148 + 1) 0 4) 147 3).toNat) ((cpyI I (a3 + 1) 0 (148 + 1) 0 4) 147 4)) 147 4 ((cpyI I (a3 + 1) 0 (148 + 1) 0 4) 147 4 + 1)) 147 3 ((cpyI I (a3 + 1) 0 (148 + 1) 0 4) 147 3 + 1)) 147 10 (p_max (0) ((cpyI I (a3 + 1) 0 (148 + 1) 0 4) 147 3 + 1))), S) (.inl none) (J1, S))
    (k1 : (((cpyI I (a3 + 1) 0 (148 + 1) 0 4) 147 3 < 8)) → L_X4_run_40 d 147 32 a2 a3 0 J1 S h1)
    (g2 : (¬((cpyI I (a3 + 1) 0 (148 + 1) 0 4) 147 3 < 8)) → Ca (d + 8) mX10_advance [vR (some (20, 0, 32))] ((up2 (up2 (up2 (up2 (cpyI I (a3 + 1) 0 (148 + 1) 0 4) 147 6 1) 147 7 0) 147 8 (-1)) 147 10 0), S) (.inl none) (J2, S))
    (k2 : (¬((cpyI I (a3 + 1) 0 (148 + 1) 0 4) 147 3 < 8)) → L_X4_run_40 d 147 32 a2 a3 0 J2 S h1)
    (v1 : ((cpyI I (a3 + 1) 0 (148 + 1) 0 4) 147 3 < 8) → -2147483648 ≤ ((cpyI I (a3 + 1) 0 (148 + 1) 0 4) 147 3) * 4 ∧ ((cpyI I (a3 + 1) 0 (148 + 1) 0 4) 147 3) * 4 ≤ 2147483647 := by intros; first | assumption | omega | (split <;> omega))
    (v2 : ((cpyI I (a3 + 1) 0 (148 + 1) 0 4) 147 3 < 8) → 0 ≤ ((cpyI I (a3 + 1) 0 (148 + 1) 0 4) 147 3) * 4 := by intros; first | assumption | omega | (split <;> omega))
    (v3 : ((cpyI I (a3 + 1) 0 (148 + 1) 0 4) 147 3 < 8) → ((cpyI I (a3 + 1) 0 (148 + 1) 0 4) 147 3) * 4 + 4 ≤ (32 : Nat) := by intros; first | assumption | omega | (split <;> omega))
    (v4 : ((cpyI I (a3 + 1) 0 (148 + 1) 0 4) 147 3 < 8) → 0 ≤ (cpyI I (a3 + 1) 0 (148 + 1) 0 4) 147 3 ∧ (cpyI I (a3 + 1) 0 (148 + 1) 0 4) 147 3 < (8 : Nat) := by intros; first | assumption | omega | (split <;> omega))
    (v5 : ((cpyI I (a3 + 1) 0 (148 + 1) 0 4) 147 3 < 8) → -2147483648 ≤ (cpyI I (a3 + 1) 0 (148 + 1) 0 4) 147 4 + 1 ∧ (cpyI I (a3 + 1) 0 (148 + 1) 0 4) 147 4 + 1 ≤ 2147483647 := by intros; first | assumption | omega | (split <;> omega))
    (v6 : ((cpyI I (a3 + 1) 0 (148 + 1) 0 4) 147 3 < 8) → -2147483648 ≤ (cpyI I (a3 + 1) 0 (148 + 1) 0 4) 147 3 + 1 ∧ (cpyI I (a3 + 1) 0 (148 + 1) 0 4) 147 3 + 1 ≤ 2147483647 := by intros; first | assumption | omega | (split <;> omega)) : Ca (d + 9) mX4_run [vR (some (15, 0, 147)), vR (some (20, 0, 32)), vR (some (11, 0, a2)), vR (some (13, 0, a3))] (I, S) (.inl none) h1 :=
  Ca.of rfl rfl (
  b_X4_run_0 (ly_X4_0 hl0) (c_X2_copyFrom (ly_X4_p hl0) hl3) (
  (Classical.em (((cpyI I (a3 + 1) 0 (148 + 1) 0 4) 147 3 < 8))).elim (fun c1 => 
    b_X4_run_8  (c_X4_lay_y hl0 v1 v2 v3 v4 v5 v6 c1) (
    b_X4_run_32  (g1 c1) (
    b_X4_run_37  ((k1 c1))))) (fun c2 => 
    b_X4_run_8  (c_X4_lay_n hl0 v1 v2 v3 v4 v5 v6 c2) (
    b_X4_run_32  (g2 c2) (
    b_X4_run_37  ((k2 c2)))))))
theorem w_X4_run_40 {d : Nat} {I : Nat → Nat → Int} {S : PS} {a2 a3 : Nat} {x4 z4 : Int} {J1 J2 J3 J4 J5 : Nat → Nat → Int} {h1 : PM} (hl0 : LyX4 S) (hl1 : LyX10 S) (hl2 : LyX0 S a2) (hl3 : LyX2 S a3)
    (g1 : (700 < x4) → Ca (d + 8) mX4_takeAllOff [vR (some (15, 0, 147))] ((up2 I 147 9 (bcn (p_or (p_or (p_or (I (148 + 1) 0) (I (148 + 1) 1)) (I (148 + 1) 2)) (I (148 + 1) 3)) 32)), S) (.inl none) (J1, S))
    (g2 : (x4 ≤ 700) → (I 32 3 = 0) → Ca (d + 8) mX4_takeAllOff [vR (some (15, 0, 147))] ((up2 I 147 9 (bcn (p_or (p_or (p_or (I (148 + 1) 0) (I (148 + 1) 1)) (I (148 + 1) 2)) (I (148 + 1) 3)) 32)), S) (.inl none) (J2, S))
    (g3 : (x4 ≤ 700) → (I 32 3 ≠ 0) → (I 147 8 ≠ (-1)) → Ca (d + 8) mX4_takeAllOff [vR (some (15, 0, 147))] ((up2 I 147 9 (bcn (p_or (p_or (p_or (I (148 + 1) 0) (I (148 + 1) 1)) (I (148 + 1) 2)) (I (148 + 1) 3)) 32)), S) (.inl none) (J3, S))
    (g4 : (x4 ≤ 700) → (I 32 3 ≠ 0) → (I 147 8 = (-1)) → Ca (d + 8) mX4_takeStep [vR (some (15, 0, 147)), vR (some (20, 0, 32)), vR (some (11, 0, a2))] (I, S) (.inl (some (vI z4))) (J4, S))
    (k1 : (x4 ≤ 700) → (I 32 3 ≠ 0) → (I 147 8 = (-1)) → (z4 ≠ (-1)) → L_X4_run_40 d 147 32 a2 a3 (x4 + 1) (up2 J4 147 8 z4) S h1)
    (g5 : (x4 ≤ 700) → (I 32 3 ≠ 0) → (I 147 8 = (-1)) → (z4 = (-1)) → Ca (d + 8) mX10_advance [vR (some (20, 0, 32))] ((up2 (up2 J4 147 8 z4) 147 7 (J4 147 7 + 1)), S) (.inl none) (J5, S))
    (k2 : (x4 ≤ 700) → (I 32 3 ≠ 0) → (I 147 8 = (-1)) → (z4 = (-1)) → L_X4_run_40 d 147 32 a2 a3 (x4 + 1) J5 S h1)
    (e1 : (700 < x4) → (J1, S) = h1 := by intros; first | rfl | (exfalso; omega) | contradiction | (exfalso; simp_all; done))
    (e2 : (x4 ≤ 700) → (I 32 3 = 0) → (J2, S) = h1 := by intros; first | rfl | (exfalso; omega) | contradiction | (exfalso; simp_all; done))
    (e3 : (x4 ≤ 700) → (I 32 3 ≠ 0) → (I 147 8 ≠ (-1)) → (J3, S) = h1 := by intros; first | rfl | (exfalso; omega) | contradiction | (exfalso; simp_all; done))
    (v1 : (x4 ≤ 700) → (I 32 3 ≠ 0) → (I 147 8 = (-1)) → (z4 ≠ (-1)) → -2147483648 ≤ x4 + 1 ∧ x4 + 1 ≤ 2147483647 := by intros; first | assumption | omega | (split <;> omega))
    (v2 : (x4 ≤ 700) → (I 32 3 ≠ 0) → (I 147 8 = (-1)) → (z4 = (-1)) → -2147483648 ≤ J4 147 7 + 1 ∧ J4 147 7 + 1 ≤ 2147483647 := by intros; first | assumption | omega | (split <;> omega))
    (v3 : (x4 ≤ 700) → (I 32 3 ≠ 0) → (I 147 8 = (-1)) → (z4 = (-1)) → -2147483648 ≤ x4 + 1 ∧ x4 + 1 ≤ 2147483647 := by intros; first | assumption | omega | (split <;> omega)) : L_X4_run_40 d 147 32 a2 a3 x4 I S h1 :=
  
  b_X4_run_40  (fun (c1 : 700 < x4) => 
    b_X4_run_101 (ly_X4_0 hl0) (c_X2_paintedCount (ly_X4_p hl0)) (
    b_X4_run_109  (g1 c1) (ev_retV (e1 c1) (b_X4_run_116 )))) (fun (c2 : x4 ≤ 700) => 
    b_X4_run_48  (fun (c3 : I 32 3 = 0) => 
      b_X4_run_101 (ly_X4_0 hl0) (c_X2_paintedCount (ly_X4_p hl0)) (
      b_X4_run_109  (g2 c2 c3) (ev_retV (e2 c2 c3) (b_X4_run_116 )))) (fun (c4 : I 32 3 ≠ 0) => 
      b_X4_run_55  (fun (c5 : I 147 8 ≠ (-1)) => 
        b_X4_run_101 (ly_X4_0 hl0) (c_X2_paintedCount (ly_X4_p hl0)) (
        b_X4_run_109  (g3 c2 c4 c5) (ev_retV (e3 c2 c4 c5) (b_X4_run_116 )))) (fun (c6 : I 147 8 = (-1)) => 
        b_X4_run_63  (g4 c2 c4 c6) (
        b_X4_run_70  (fun (c7 : z4 ≠ (-1)) => 
          b_X4_run_95 (v1 c2 c4 c6 c7) ((k1 c2 c4 c6 c7))) (fun (c8 : z4 = (-1)) => 
          b_X4_run_81 (v2 c2 c4 c6 c8) (g5 c2 c4 c6 c8) (
          b_X4_run_95 (v3 c2 c4 c6 c8) ((k2 c2 c4 c6 c8))))))))
abbrev L_X12_plan_103 (d : Nat) (a0 : Nat) (x1 : Int) (x2 : Int) (I : Nat → Nat → Int) (S : PS) (v : Int) (h1 : PM) : Prop := Ev (d + 8) mX12_plan (103, [some (vR (some (22, 0, a0))), some (vI x1), some (vI x2)], [], (I, S)) (.inl (some (vI v)), h1)
abbrev L_X12_plan_161 (d : Nat) (a0 : Nat) (x1 : Int) (x2 : Int) (I : Nat → Nat → Int) (S : PS) (v : Int) (h1 : PM) : Prop := Ev (d + 8) mX12_plan (161, [some (vR (some (22, 0, a0))), some (vI x1), some (vI x2)], [], (I, S)) (.inl (some (vI v)), h1)
theorem w_X12_plan_0 {d : Nat} {I : Nat → Nat → Int} {S : PS} {x1 : Int} {J1 : Nat → Nat → Int} {v : Int} {h1 : PM} (hl0 : LyX12 S)
    (g1 : (((0 ≤ x1) ∧ (x1 ≤ I 156 2))) → Ca (d + 7) mX12_goes [vR (some (22, 0, 156))] ((lsI (trI (up2 (up2 (up2 (up2 (up2 (up2 (up2 (up2 (up2 (up2 (up2 I 156 0 0) 156 2 0) 156 3 0) 156 4 (-1)) 156 55 (-1)) 156 6 x1) 156 7 0) 156 51 0) 156 50 0) 186 2 0) 186 3 0))), S) (.inl none) (J1, S))
    (k1 : (((0 ≤ x1) ∧ (x1 ≤ I 156 2))) → L_X12_plan_103 d 156 x1 (I 156 4) J1 S v h1)
    (r1 : (¬((0 ≤ x1) ∧ (x1 ≤ I 156 2))) → 0 = v)
    (e1 : (¬((0 ≤ x1) ∧ (x1 ≤ I 156 2))) → ((up2 (up2 I 156 0 0) 156 0 1), S) = h1 := by intros; first | rfl | (exfalso; omega) | contradiction | (exfalso; simp_all; done))
    (v1 : (((0 ≤ x1) ∧ (x1 ≤ I 156 2))) → 0 ≤ I 156 48 ∧ I 156 48 ≤ 1000000 := by intros; first | assumption | omega | (split <;> omega)) : Ca (d + 8) mX12_plan [vR (some (22, 0, 156)), vI x1] (I, S) (.inl (some (vI v))) h1 :=
  Ca.of rfl rfl (
  have K4 : ∀ us1 : Int, us1 = (if (0 ≤ x1) ∧ (x1 ≤ I 156 2) then (1 : Int) else 0) → Ev (d + 8) mX12_plan (23, [some (vR (some (22, 0, 156))), some (vI x1), none], [vI us1, vR (some (22, 0, 156))], ((up2 I 156 0 0), S)) (.inl (some (vI v)), h1) := fun us1 e_us1 => by subst e_us1; exact (
    (Classical.em (((0 ≤ x1) ∧ (x1 ≤ I 156 2)))).elim (fun c6 => 
      b_X12_plan_23  (c_X12_right_y (b1 := (0 ≤ x1) ∧ (x1 ≤ I 156 2)) hl0 (by first | decide | exact (show 0 = 0 from by decide)) (by first | decide | exact (show (1 : Int) ≠ 0 from by decide)) c6) (
      b_X12_plan_27  (fun _ => 
        b_X12_plan_32 (ly_X12_54 hl0) (by decide) (by decide) (c_X12_tries hl0) (
        b_X12_plan_95  (c_X12_laysSheet hl0 (by first | decide | exact (show 0 ≤ 0 ∧ 0 < 8 from by decide)) (v1 c6)) (
        b_X12_plan_99  (g1 c6) ((k1 c6))))) (fun c => absurd c (by decide)))) (fun c7 => 
      b_X12_plan_23  (c_X12_right_n (b1 := (0 ≤ x1) ∧ (x1 ≤ I 156 2)) hl0 (by first | decide | exact (show 0 = 0 from by decide)) (by first | decide | exact (show (1 : Int) ≠ 0 from by decide)) c7) (
      b_X12_plan_27  (fun c => absurd c (by decide)) (fun _ => ev_ret2 (r1 c7) (e1 c7) (b_X12_plan_30 )))))
  
  b_X12_plan_0  (fun (c1 : x1 < 0) => 
    b_X12_plan_22  (K4 0 (if_neg (fun q => (Int.not_le.mpr c1) q.1)).symm)) (fun (c2 : 0 ≤ x1) => 
    b_X12_plan_10  (fun (c3 : I 156 2 < x1) => 
      b_X12_plan_22  (K4 0 (if_neg (fun q => (Int.not_le.mpr c3) q.2)).symm)) (fun (c4 : x1 ≤ I 156 2) => 
      b_X12_plan_18  (K4 1 (if_pos ⟨c2, c4⟩).symm))))
theorem w_X12_plan_103 {d : Nat} {I : Nat → Nat → Int} {S : PS} {x1 x2 : Int} {J1 : Nat → Nat → Int} {v : Int} {h1 : PM} (hl0 : LyX12 S)
    (k1 : (¬(I 156 3 = 0)) → L_X12_plan_161 d 156 x1 x2 (up2 (up2 I 186 0 (if I 156 55 = (-1) then (I 156 4 : Int) else I 156 55)) 186 1 (cntP (up2 I 186 0 (if I 156 55 = (-1) then (I 156 4 : Int) else I 156 55)) 18 ((I 156 15)).toNat)) S v h1)
    (k2 : (I 156 3 = 0) → (I 156 8 = 0) → L_X12_plan_161 d 156 x1 x2 (up2 (up2 I 186 0 (if I 156 55 = (-1) then (I 156 4 : Int) else I 156 55)) 186 1 (cntP (up2 I 186 0 (if I 156 55 = (-1) then (I 156 4 : Int) else I 156 55)) 18 ((I 156 15)).toNat)) S v h1)
    (g1 : (I 156 3 = 0) → (I 156 8 ≠ 0) → Ca (d + 7) mX12_stepOf [vR (some (22, 0, 156))] (I, S) (.inl none) (J1, S))
    (k3 : (I 156 3 = 0) → (I 156 8 ≠ 0) → L_X12_plan_103 d 156 x1 x2 J1 S v h1)
    (v1 : (¬(I 156 3 = 0)) → 0 ≤ (I 156 15) ∧ (I 156 15) ≤ 12 := by intros; first | assumption | omega | (split <;> omega))
    (v2 : (I 156 3 = 0) → (I 156 8 = 0) → 0 ≤ (I 156 15) ∧ (I 156 15) ≤ 12 := by intros; first | assumption | omega | (split <;> omega)) : L_X12_plan_103 d 156 x1 x2 I S v h1 :=
  
  b_X12_plan_103  (c_X12_isGood hl0) (
  b_X12_plan_107  (fun c1' => have c1 : ¬(I 156 3 = 0) := b2f c1'; 
    have K4 : ∀ us2 : Int, us2 = (if I 156 55 = (-1) then (I 156 4 : Int) else I 156 55) → Ev (d + 8) mX12_plan (148, [some (vR (some (22, 0, 156))), some (vI x1), some (vI x2)], [vI us2, vI 0, vR (some (0, 4, 186))], (I, S)) (.inl (some (vI v)), h1) := fun us2 e_us2 => by subst e_us2; exact (
      b_X12_plan_148 (by first | decide | exact (show 0 ≤ (0 : Int) ∧ (0 : Int) < (4 : Nat) from by decide)) (ly_X12_54 hl0) (c_X12_painted hl0 (by first | decide | exact (show (18 : Int) = 0 ∨ (18 : Int) = 18 from by decide)) (v1 c1)) (
      b_X12_plan_160 (by first | decide | exact (show 0 ≤ (1 : Int) ∧ (1 : Int) < (4 : Nat) from by decide)) ((k1 c1))))
    
    b_X12_plan_124 (ly_X12_54 hl0) (fun (c3 : I 156 55 = (-1)) => 
      b_X12_plan_144  (K4 (I 156 4) ((if_pos c3).symm))) (fun (c4 : I 156 55 ≠ (-1)) => 
      b_X12_plan_137  (K4 (I 156 55) ((if_neg c4).symm)))) (fun c2' => have c2 : I 156 3 = 0 := b2t c2'; 
    b_X12_plan_110  (fun (c6 : I 156 8 = 0) => 
      have K9 : ∀ us2 : Int, us2 = (if I 156 55 = (-1) then (I 156 4 : Int) else I 156 55) → Ev (d + 8) mX12_plan (148, [some (vR (some (22, 0, 156))), some (vI x1), some (vI x2)], [vI us2, vI 0, vR (some (0, 4, 186))], (I, S)) (.inl (some (vI v)), h1) := fun us2 e_us2 => by subst e_us2; exact (
        b_X12_plan_148 (by first | decide | exact (show 0 ≤ (0 : Int) ∧ (0 : Int) < (4 : Nat) from by decide)) (ly_X12_54 hl0) (c_X12_painted hl0 (by first | decide | exact (show (18 : Int) = 0 ∨ (18 : Int) = 18 from by decide)) (v2 c2 c6)) (
        b_X12_plan_160 (by first | decide | exact (show 0 ≤ (1 : Int) ∧ (1 : Int) < (4 : Nat) from by decide)) ((k2 c2 c6))))
      
      b_X12_plan_124 (ly_X12_54 hl0) (fun (c8 : I 156 55 = (-1)) => 
        b_X12_plan_144  (K9 (I 156 4) ((if_pos c8).symm))) (fun (c9 : I 156 55 ≠ (-1)) => 
        b_X12_plan_137  (K9 (I 156 55) ((if_neg c9).symm)))) (fun (c7 : I 156 8 ≠ 0) => 
      b_X12_plan_117  (g1 c2 c7) (
      b_X12_plan_121  ((k3 c2 c7))))))
theorem w_X12_plan_161 {d : Nat} {I : Nat → Nat → Int} {S : PS} {x1 x2 : Int} {v : Int} {h1 : PM} (hl0 : LyX12 S)
    (k1 : (0 < I 156 50) → L_X12_plan_161 d 156 x1 x2 (up2 (toI I) 186 3 ((10 * ((toI I) 186 3)) + (((toI I) 156 49) % 10))) S v h1)
    (r1 : (I 156 50 ≤ 0) → I 156 51 = v)
    (e1 : (I 156 50 ≤ 0) → ((up2 (up2 I 156 4 x2) 156 47 1), S) = h1 := by intros; first | rfl | (exfalso; omega) | contradiction | (exfalso; simp_all; done))
    (v1 : (0 < I 156 50) → 1 ≤ I 156 50 ∧ I 156 50 ≤ 8 := by intros; first | assumption | omega | (split <;> omega))
    (v2 : (0 < I 156 50) → -2147483648 ≤ 10 * ((toI I) 186 3) ∧ 10 * ((toI I) 186 3) ≤ 2147483647 := by intros; first | assumption | omega | (split <;> omega))
    (v3 : (0 < I 156 50) → (0 ≤ (toI I) 156 49 ∧ (toI I) 156 49 ≤ 2147483647) ∧ 0 < (10 : Int) ∧ (10 : Int) ≤ 2147483647 := by intros; first | assumption | omega | (split <;> omega))
    (v4 : (0 < I 156 50) → -2147483648 ≤ (10 * ((toI I) 186 3)) + (((toI I) 156 49) % 10) ∧ (10 * ((toI I) 186 3)) + (((toI I) 156 49) % 10) ≤ 2147483647 := by intros; first | assumption | omega | (split <;> omega)) : L_X12_plan_161 d 156 x1 x2 I S v h1 :=
  
  b_X12_plan_161  (fun (c1 : I 156 50 ≤ 0) => ev_ret2 (r1 c1) (e1 c1) (b_X12_plan_198 )) (fun (c2 : 0 < I 156 50) => 
    b_X12_plan_168  (c_X12_takesOff hl0 (v1 c2)) (
    b_X12_plan_172 (ly_X12_54 hl0) (by decide) (v2 c2) (v3 c2) (v4 c2) (by decide) ((k1 c2))))
end
