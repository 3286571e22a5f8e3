noncomputable section
abbrev L_X5_readPiece_45 (d : Nat) (a0 : Nat) (a1 : Nat) (x2 : Int) (a3 : Nat) (x4 : Int) (I : Nat → Nat → Int) (S : PS) (v : Int) (h1 : PM) : Prop := Ev (d + 5) mX5_readPiece (45, [some (vR (some (20, 0, a0))), some (vR (some (11, 0, a1))), some (vI x2), some (vR (some (14, 0, a3))), some (vI x4)], [], (I, S)) (.inl (some (vI v)), h1)
abbrev L_X5_readPiece_80 (d : Nat) (a0 : Nat) (a1 : Nat) (x2 : Int) (a3 : Nat) (x4 : Int) (I : Nat → Nat → Int) (S : PS) (v : Int) (h1 : PM) : Prop := Ev (d + 5) mX5_readPiece (80, [some (vR (some (20, 0, a0))), some (vR (some (11, 0, a1))), some (vI x2), some (vR (some (14, 0, a3))), some (vI x4)], [], (I, S)) (.inl (some (vI v)), h1)
theorem w_X5_readPiece_0 {d : Nat} {I : Nat → Nat → Int} {S : PS} {a1 : Nat} {J1 J2 : Nat → Nat → Int} {z1 : Int} {v : Int} {h1 : PM} (hl0 : LyX10 S) (hl1 : LyX0 S a1)
    (g1 : (I a1 1 < 4) → Ca (d + 4) mX5_readNumber [vR (some (20, 0, 32)), vI 5, vI 7] (I, S) (.inl (some (vI z1))) (J1, S))
    (g2 : (I a1 1 < 4) → (z1 = 0) → Ca (d + 4) mX3_begin [vR (some (14, 0, (a1 + 7 + 9 * (J1 a1 1).toNat))), vI (J1 32 5)] (J1, S) (.inl none) (J2, S))
    (k1 : (I a1 1 < 4) → (z1 = 0) → L_X5_readPiece_45 d 32 a1 z1 (a1 + 7 + 9 * (J1 a1 1).toNat) 0 J2 S v h1)
    (r1 : (I a1 1 < 4) → (z1 ≠ 0) → z1 = v)
    (e1 : (I a1 1 < 4) → (z1 ≠ 0) → (J1, S) = h1 := by intros; first | rfl | (exfalso; omega) | contradiction | (exfalso; simp_all; done))
    (r2 : (4 ≤ I a1 1) → 2 = v)
    (e2 : (4 ≤ I a1 1) → (I, S) = h1 := by intros; first | rfl | (exfalso; omega) | contradiction | (exfalso; simp_all; done))
    (v1 : (I a1 1 < 4) → (z1 = 0) → 0 ≤ J1 a1 1 ∧ J1 a1 1 < (4 : Nat) := by intros; first | assumption | omega | (split <;> omega)) : Ca (d + 5) mX5_readPiece [vR (some (20, 0, 32)), vR (some (11, 0, a1))] (I, S) (.inl (some (vI v))) h1 :=
  Ca.of rfl rfl (
  b_X5_readPiece_0  (fun (c1 : I a1 1 < 4) => 
    b_X5_readPiece_10  (g1 c1) (
    b_X5_readPiece_17  (fun (c3 : z1 = 0) => 
      b_X5_readPiece_24 (ly_X0_0 hl1) (v1 c1 c3) (ly_X0_a hl1 (idxN (v1 c1 c3))) (g2 c1 c3) (
      b_X5_readPiece_42  ((k1 c1 c3)))) (fun (c4 : z1 ≠ 0) => ev_ret2 (r1 c1 c4) (e1 c1 c4) (b_X5_readPiece_22 )))) (fun (c2 : 4 ≤ I a1 1) => ev_ret2 (r2 c2) (e2 c2) (b_X5_readPiece_8 )))
theorem w_X5_readPiece_45 {d : Nat} {I : Nat → Nat → Int} {S : PS} {a1 a3 : Nat} {x2 x4 z3 : Int} {J1 J2 J3 : Nat → Nat → Int} {z2 : Bool} {v : Int} {h1 : PM} (hl0 : LyX10 S) (hl1 : LyX0 S a1) (hl3 : LyX3 S a3)
    (g1 : (x4 ≤ 7) → Ca (d + 4) mX10_advance [vR (some (20, 0, 32))] (I, S) (.inl none) (J1, S))
    (k1 : (x4 ≤ 7) → (J1 32 3 ≠ 3) → L_X5_readPiece_80 d 32 a1 x2 a3 x4 J1 S v h1)
    (g2 : (x4 ≤ 7) → (J1 32 3 = 3) → Ca (d + 4) mX3_build [vR (some (14, 0, a3))] (J1, S) (.inl (some (vI (if z2 = true then (1 : Int) else 0)))) (J2, S))
    (g3 : (x4 ≤ 7) → (J1 32 3 = 3) → (z2 = true) → Ca (d + 4) mX0_keepPiece [vR (some (11, 0, a1))] (J2, S) (.inl (some (vI z3))) (J3, S))
    (r1 : (7 < x4) → 2 = v)
    (e1 : (7 < x4) → (I, S) = h1 := by intros; first | rfl | (exfalso; omega) | contradiction | (exfalso; simp_all; done))
    (r2 : (x4 ≤ 7) → (J1 32 3 = 3) → (¬(z2 = true)) → 2 = v)
    (e2 : (x4 ≤ 7) → (J1 32 3 = 3) → (¬(z2 = true)) → (J2, S) = h1 := by intros; first | rfl | (exfalso; omega) | contradiction | (exfalso; simp_all; done))
    (r3 : (x4 ≤ 7) → (J1 32 3 = 3) → (z2 = true) → z3 = v)
    (e3 : (x4 ≤ 7) → (J1 32 3 = 3) → (z2 = true) → (J3, S) = h1 := by intros; first | rfl | (exfalso; omega) | contradiction | (exfalso; simp_all; done)) : L_X5_readPiece_45 d 32 a1 x2 a3 x4 I S v h1 :=
  
  b_X5_readPiece_45  (fun (c1 : 7 < x4) => ev_ret2 (r1 c1) (e1 c1) (b_X5_readPiece_113 )) (fun (c2 : x4 ≤ 7) => 
    b_X5_readPiece_52  (g1 c2) (
    b_X5_readPiece_56  (fun (c3 : J1 32 3 ≠ 3) => (k1 c2 c3)) (fun (c4 : J1 32 3 = 3) => 
      b_X5_readPiece_64  (g2 c2 c4) (
      b_X5_readPiece_68  (fun c5' => have c5 : ¬(z2 = true) := b2f c5'; 
        b_X5_readPiece_78  (ev_ret2 (r2 c2 c4 c5) (e2 c2 c4 c5) (b_X5_readPiece_79 ))) (fun c6' => have c6 : z2 = true := b2t c6'; 
        b_X5_readPiece_71  (g3 c2 c4 c6) (
        b_X5_readPiece_75  (ev_ret2 (r3 c2 c4 c6) (e3 c2 c4 c6) (b_X5_readPiece_79 ))))))))
theorem w_X5_readPiece_80 {d : Nat} {I : Nat → Nat → Int} {S : PS} {a1 a3 : Nat} {x2 x4 z1 : Int} {J1 J2 : Nat → Nat → Int} {z2 : Bool} {v : Int} {h1 : PM} (hl0 : LyX10 S) (hl1 : LyX0 S a1) (hl3 : LyX3 S a3)
    (g1 : Ca (d + 4) mX5_checkNumber [vR (some (20, 0, 32)), vI 5, vI 9] (I, S) (.inl (some (vI z1))) (J1, S))
    (g2 : (z1 = 0) → Ca (d + 4) mX3_addSpoke [vR (some (14, 0, a3)), vI (J1 32 5)] (J1, S) (.inl (some (vI (if z2 = true then (1 : Int) else 0)))) (J2, S))
    (k1 : (z1 = 0) → (z2 = true) → L_X5_readPiece_45 d 32 a1 z1 a3 (x4 + 1) J2 S v h1)
    (r1 : (z1 = 0) → (¬(z2 = true)) → 2 = v)
    (e1 : (z1 = 0) → (¬(z2 = true)) → (J2, S) = h1 := by intros; first | rfl | (exfalso; omega) | contradiction | (exfalso; simp_all; done))
    (r2 : (z1 ≠ 0) → z1 = v)
    (e2 : (z1 ≠ 0) → (J1, S) = h1 := by intros; first | rfl | (exfalso; omega) | contradiction | (exfalso; simp_all; done))
    (v1 : (z1 = 0) → (z2 = true) → -2147483648 ≤ x4 + 1 ∧ x4 + 1 ≤ 2147483647 := by intros; first | assumption | omega | (split <;> omega)) : L_X5_readPiece_80 d 32 a1 x2 a3 x4 I S v h1 :=
  
  b_X5_readPiece_80  g1 (
  b_X5_readPiece_87  (fun (c1 : z1 = 0) => 
    b_X5_readPiece_94  (g2 c1) (
    b_X5_readPiece_102  (fun c3' => have c3 : z2 = true := b2t c3'; 
      b_X5_readPiece_107 (v1 c1 c3) ((k1 c1 c3))) (fun c4' => have c4 : ¬(z2 = true) := b2f c4'; ev_ret2 (r1 c1 c4) (e1 c1 c4) (b_X5_readPiece_105 )))) (fun (c2 : z1 ≠ 0) => ev_ret2 (r2 c2) (e2 c2) (b_X5_readPiece_92 )))
abbrev L_X12_readsPiece_46 (d : Nat) (a0 : Nat) (x1 : Int) (I : Nat → Nat → Int) (S : PS) (h1 : PM) : Prop := Ev (d + 5) mX12_readsPiece (46, [some (vR (some (22, 0, a0))), some (vI x1), none, none], [], (I, S)) (.inl none, h1)
abbrev L_X12_readsPiece_91 (d : Nat) (a0 : Nat) (x1 : Int) (x2 : Int) (I : Nat → Nat → Int) (S : PS) (h1 : PM) : Prop := Ev (d + 5) mX12_readsPiece (91, [some (vR (some (22, 0, a0))), some (vI x1), some (vI x2), none], [], (I, S)) (.inl none, h1)
abbrev L_X12_readsPiece_139 (d : Nat) (a0 : Nat) (x1 : Int) (I : Nat → Nat → Int) (S : PS) (h1 : PM) : Prop := Ev (d + 5) mX12_readsPiece (139, [some (vR (some (22, 0, a0))), some (vI x1), none, none], [], (I, S)) (.inl none, h1)
abbrev L_X12_readsPiece_147 (d : Nat) (a0 : Nat) (x1 : Int) (I : Nat → Nat → Int) (S : PS) (h1 : PM) : Prop := Ev (d + 5) mX12_readsPiece (147, [some (vR (some (22, 0, a0))), some (vI x1), none, none], [], (I, S)) (.inl none, h1)
abbrev L_X12_readsPiece_173 (d : Nat) (a0 : Nat) (x1 : Int) (I : Nat → Nat → Int) (S : PS) (h1 : PM) : Prop := Ev (d + 5) mX12_readsPiece (173, [some (vR (some (22, 0, a0))), some (vI x1), none, none], [], (I, S)) (.inl none, h1)
abbrev L_X12_readsPiece_186 (d : Nat) (a0 : Nat) (x1 : Int) (I : Nat → Nat → Int) (S : PS) (h1 : PM) : Prop := Ev (d + 5) mX12_readsPiece (186, [some (vR (some (22, 0, a0))), some (vI x1), none, none], [], (I, S)) (.inl none, h1)
abbrev L_X12_readsPiece_194 (d : Nat) (a0 : Nat) (x1 : Int) (I : Nat → Nat → Int) (S : PS) (h1 : PM) : Prop := Ev (d + 5) mX12_readsPiece (194, [some (vR (some (22, 0, a0))), some (vI x1), none, none], [], (I, S)) (.inl none, h1)
theorem w_X12_readsPiece_0 {d : Nat} {I : Nat → Nat → Int} {S : PS} {J1 : Nat → Nat → Int} {z1 : Int} {h1 : PM} (hl0 : LyX12 S)
    (g1 : Ca (d + 4) mX12_number [vR (some (22, 0, 156)), vI 5, vI 7] (I, S) (.inl (some (vI z1))) (J1, S))
    (k1 : L_X12_readsPiece_46 d 156 (I 156 16) (up2 (up2 (up2 J1 162 ((20 * (I 156 16)).toNat) z1) 162 (((20 * (I 156 16)) + 1).toNat) 0) 162 (((20 * (I 156 16)) + 10).toNat) 0) S h1)
    (v1 : -2147483648 ≤ 20 * (I 156 16) ∧ 20 * (I 156 16) ≤ 2147483647 := by intros; first | assumption | omega | (split <;> omega))
    (v2 : 0 ≤ 20 * (I 156 16) ∧ 20 * (I 156 16) < (80 : Nat) := by intros; first | assumption | omega | (split <;> omega))
    (v3 : -2147483648 ≤ (20 * (I 156 16)) + 1 ∧ (20 * (I 156 16)) + 1 ≤ 2147483647 := by intros; first | assumption | omega | (split <;> omega))
    (v4 : 0 ≤ (20 * (I 156 16)) + 1 ∧ (20 * (I 156 16)) + 1 < (80 : Nat) := by intros; first | assumption | omega | (split <;> omega))
    (v5 : -2147483648 ≤ (20 * (I 156 16)) + 10 ∧ (20 * (I 156 16)) + 10 ≤ 2147483647 := by intros; first | assumption | omega | (split <;> omega))
    (v6 : 0 ≤ (20 * (I 156 16)) + 10 ∧ (20 * (I 156 16)) + 10 < (80 : Nat) := by intros; first | assumption | omega | (split <;> omega)) : Ca (d + 5) mX12_readsPiece [vR (some (22, 0, 156))] (I, S) (.inl none) h1 :=
  Ca.of rfl rfl (
  b_X12_readsPiece_0 (ly_X12_22 hl0) v1 g1 (
  b_X12_readsPiece_20 v2 (ly_X12_22 hl0) v1 v3 v4 v1 v5 v6 (k1)))
theorem w_X12_readsPiece_46 {d : Nat} {I : Nat → Nat → Int} {S : PS} {x1 : Int} {J1 : Nat → Nat → Int} {h1 : PM} (hl0 : LyX12 S)
    (k1 : (¬(I 156 3 = 0)) → L_X12_readsPiece_139 d 156 x1 I S h1)
    (k2 : (I 156 3 = 0) → (I 156 8 ≠ 2) → L_X12_readsPiece_139 d 156 x1 I S h1)
    (k3 : (I 156 3 = 0) → (I 156 8 = 2) → (I 162 ((20 * x1) + 1).toNat ≠ I 162 (20 * x1).toNat) → L_X12_readsPiece_91 d 156 x1 (I 162 ((20 * x1) + 1).toNat) I S h1)
    (g1 : (I 156 3 = 0) → (I 156 8 = 2) → (I 162 ((20 * x1) + 1).toNat = I 162 (20 * x1).toNat) → Ca (d + 4) mX12_wrong [vR (some (22, 0, 156)), vI 2] (I, S) (.inl none) (J1, S))
    (k4 : (I 156 3 = 0) → (I 156 8 = 2) → (I 162 ((20 * x1) + 1).toNat = I 162 (20 * x1).toNat) → L_X12_readsPiece_91 d 156 x1 (I 162 ((20 * x1) + 1).toNat) J1 S h1)
    (v1 : (I 156 3 = 0) → (I 156 8 = 2) → -2147483648 ≤ 20 * x1 ∧ 20 * x1 ≤ 2147483647 := by intros; first | assumption | omega | (split <;> omega))
    (v2 : (I 156 3 = 0) → (I 156 8 = 2) → -2147483648 ≤ (20 * x1) + 1 ∧ (20 * x1) + 1 ≤ 2147483647 := by intros; first | assumption | omega | (split <;> omega))
    (v3 : (I 156 3 = 0) → (I 156 8 = 2) → 0 ≤ (20 * x1) + 1 ∧ (20 * x1) + 1 < (80 : Nat) := by intros; first | assumption | omega | (split <;> omega))
    (v4 : (I 156 3 = 0) → (I 156 8 = 2) → 0 ≤ 20 * x1 ∧ 20 * x1 < (80 : Nat) := by intros; first | assumption | omega | (split <;> omega)) : L_X12_readsPiece_46 d 156 x1 I S h1 :=
  
  b_X12_readsPiece_46  (c_X12_isGood hl0) (
  b_X12_readsPiece_50  (fun c1' => have c1 : ¬(I 156 3 = 0) := b2f c1'; (k1 c1)) (fun c2' => have c2 : I 156 3 = 0 := b2t c2'; 
    b_X12_readsPiece_53  (fun (c3 : I 156 8 ≠ 2) => (k2 c2 c3)) (fun (c4 : I 156 8 = 2) => 
      b_X12_readsPiece_61 (ly_X12_22 hl0) (v1 c2 c4) (v2 c2 c4) (v3 c2 c4) (v1 c2 c4) (v4 c2 c4) (fun (c5 : I 162 ((20 * x1) + 1).toNat ≠ I 162 (20 * x1).toNat) => (k3 c2 c4 c5)) (fun (c6 : I 162 ((20 * x1) + 1).toNat = I 162 (20 * x1).toNat) => 
        b_X12_readsPiece_86  (g1 c2 c4 c6) ((k4 c2 c4 c6))))))
theorem w_X12_readsPiece_91 {d : Nat} {I : Nat → Nat → Int} {S : PS} {x1 x2 z1 : Int} {J1 : Nat → Nat → Int} {h1 : PM} (hl0 : LyX12 S)
    (g1 : Ca (d + 4) mX12_number [vR (some (22, 0, 156)), vI 5, vI 9] (I, S) (.inl (some (vI z1))) (J1, S))
    (k1 : (J1 156 3 = 0) → L_X12_readsPiece_46 d 156 x1 (up2 (up2 J1 162 ((((20 * x1) + 2) + x2).toNat) z1) 162 (((20 * x1) + 1).toNat) (((up2 J1 162 ((((20 * x1) + 2) + x2).toNat) z1) 162 ((20 * x1) + 1).toNat) + 1)) S h1)
    (e1 : (¬(J1 156 3 = 0)) → (J1, S) = h1 := by intros; first | rfl | (exfalso; omega) | contradiction | (exfalso; simp_all; done))
    (v1 : (J1 156 3 = 0) → -2147483648 ≤ 20 * x1 ∧ 20 * x1 ≤ 2147483647 := by intros; first | assumption | omega | (split <;> omega))
    (v2 : (J1 156 3 = 0) → -2147483648 ≤ (20 * x1) + 2 ∧ (20 * x1) + 2 ≤ 2147483647 := by intros; first | assumption | omega | (split <;> omega))
    (v3 : (J1 156 3 = 0) → -2147483648 ≤ ((20 * x1) + 2) + x2 ∧ ((20 * x1) + 2) + x2 ≤ 2147483647 := by intros; first | assumption | omega | (split <;> omega))
    (v4 : (J1 156 3 = 0) → 0 ≤ ((20 * x1) + 2) + x2 ∧ ((20 * x1) + 2) + x2 < (80 : Nat) := by intros; first | assumption | omega | (split <;> omega))
    (v5 : (J1 156 3 = 0) → -2147483648 ≤ (20 * x1) + 1 ∧ (20 * x1) + 1 ≤ 2147483647 := by intros; first | assumption | omega | (split <;> omega))
    (v6 : (J1 156 3 = 0) → 0 ≤ (20 * x1) + 1 ∧ (20 * x1) + 1 < (80 : Nat) := by intros; first | assumption | omega | (split <;> omega))
    (v7 : (J1 156 3 = 0) → -2147483648 ≤ ((up2 J1 162 ((((20 * x1) + 2) + x2).toNat) z1) 162 ((20 * x1) + 1).toNat) + 1 ∧ ((up2 J1 162 ((((20 * x1) + 2) + x2).toNat) z1) 162 ((20 * x1) + 1).toNat) + 1 ≤ 2147483647 := by intros; first | assumption | omega | (split <;> omega)) : L_X12_readsPiece_91 d 156 x1 x2 I S h1 :=
  
  b_X12_readsPiece_91  g1 (
  b_X12_readsPiece_98  (c_X12_isGood hl0) (
  b_X12_readsPiece_103  (fun c1' => have c1 : J1 156 3 = 0 := b2t c1'; 
    b_X12_readsPiece_107 (ly_X12_22 hl0) (v1 c1) (v2 c1) (v3 c1) (v4 c1) (v1 c1) (v5 c1) (v6 c1) (v7 c1) (v6 c1) ((k1 c1))) (fun c2' => have c2 : ¬(J1 156 3 = 0) := b2f c2'; ev_retV (e1 c2) (b_X12_readsPiece_106 ))))
theorem w_X12_readsPiece_139 {d : Nat} {I : Nat → Nat → Int} {S : PS} {x1 : Int} {h1 : PM} (hl0 : LyX12 S)
    (k1 : (I 156 3 = 0) → L_X12_readsPiece_147 d 156 x1 I S h1)
    (e1 : (¬(I 156 3 = 0)) → (I, S) = h1 := by intros; first | rfl | (exfalso; omega) | contradiction | (exfalso; simp_all; done)) : L_X12_readsPiece_139 d 156 x1 I S h1 :=
  
  b_X12_readsPiece_139  (c_X12_isGood hl0) (
  b_X12_readsPiece_143  (fun c1' => have c1 : I 156 3 = 0 := b2t c1'; (k1 c1)) (fun c2' => have c2 : ¬(I 156 3 = 0) := b2f c2'; ev_retV (e1 c2) (b_X12_readsPiece_146 )))
theorem w_X12_readsPiece_147 {d : Nat} {I : Nat → Nat → Int} {S : PS} {x1 : Int} {J1 : Nat → Nat → Int} {h1 : PM} (hl0 : LyX12 S)
    (k1 : (I 156 8 ≠ 3) → L_X12_readsPiece_173 d 156 x1 I S h1)
    (k2 : (I 156 8 = 3) → ((rgM I 162 x1) ≤ 7) → L_X12_readsPiece_173 d 156 x1 I S h1)
    (g1 : (I 156 8 = 3) → (7 < (rgM I 162 x1)) → Ca (d + 4) mX12_wrong [vR (some (22, 0, 156)), vI 2] (I, S) (.inl none) (J1, S))
    (k3 : (I 156 8 = 3) → (7 < (rgM I 162 x1)) → L_X12_readsPiece_173 d 156 x1 J1 S h1)
    (v1 : (I 156 8 = 3) → 0 ≤ x1 ∧ x1 < 4 := by intros; first | assumption | omega | (split <;> omega))
    (v2 : (I 156 8 = 3) → mPc (I 162) x1 := by intros; first | assumption | omega | (split <;> omega)) : L_X12_readsPiece_147 d 156 x1 I S h1 :=
  
  b_X12_readsPiece_147  (fun (c1 : I 156 8 ≠ 3) => (k1 c1)) (fun (c2 : I 156 8 = 3) => 
    b_X12_readsPiece_155 (ly_X12_22 hl0) (c_X12_ringOf (by first | decide | exact (show 80 = 80 from by decide)) (v1 c2) (v2 c2)) (
    b_X12_readsPiece_163  (fun (c3 : (rgM I 162 x1) ≤ 7) => (k2 c2 c3)) (fun (c4 : 7 < (rgM I 162 x1)) => 
      b_X12_readsPiece_168  (g1 c2 c4) ((k3 c2 c4)))))
theorem w_X12_readsPiece_173 {d : Nat} {I : Nat → Nat → Int} {S : PS} {x1 : Int} {J1 : Nat → Nat → Int} {h1 : PM} (hl0 : LyX12 S)
    (k1 : (I 156 8 = 3) → L_X12_readsPiece_186 d 156 x1 I S h1)
    (g1 : (I 156 8 ≠ 3) → Ca (d + 4) mX12_wrong [vR (some (22, 0, 156)), vI 1] (I, S) (.inl none) (J1, S))
    (k2 : (I 156 8 ≠ 3) → L_X12_readsPiece_186 d 156 x1 J1 S h1) : L_X12_readsPiece_173 d 156 x1 I S h1 :=
  
  b_X12_readsPiece_173  (fun (c1 : I 156 8 = 3) => (k1 c1)) (fun (c2 : I 156 8 ≠ 3) => 
    b_X12_readsPiece_181  (g1 c2) ((k2 c2)))
theorem w_X12_readsPiece_186 {d : Nat} {I : Nat → Nat → Int} {S : PS} {x1 : Int} {h1 : PM} (hl0 : LyX12 S)
    (k1 : (I 156 3 = 0) → L_X12_readsPiece_194 d 156 x1 I S h1)
    (e1 : (¬(I 156 3 = 0)) → (I, S) = h1 := by intros; first | rfl | (exfalso; omega) | contradiction | (exfalso; simp_all; done)) : L_X12_readsPiece_186 d 156 x1 I S h1 :=
  
  b_X12_readsPiece_186  (c_X12_isGood hl0) (
  b_X12_readsPiece_190  (fun c1' => have c1 : I 156 3 = 0 := b2t c1'; (k1 c1)) (fun c2' => have c2 : ¬(I 156 3 = 0) := b2f c2'; ev_retV (e1 c2) (b_X12_readsPiece_193 )))
theorem w_X12_readsPiece_194 {d : Nat} {I : Nat → Nat → Int} {S : PS} {x1 : Int} {J1 : Nat → Nat → Int} {h1 : PM} (hl0 : LyX12 S)
    (g1 : Ca (d + 4) mX12_laysEdges [vR (some (22, 0, 156)), vI x1] ((up2 I 162 (((20 * x1) + 9).toNat) (rgM I 162 x1)), S) (.inl none) (J1, S))
    (e1 : ((up2 J1 156 16 (J1 156 16 + 1)), S) = h1 := by intros; first | rfl | (exfalso; omega) | contradiction | (exfalso; simp_all; done))
    (v1 : -2147483648 ≤ 20 * x1 ∧ 20 * x1 ≤ 2147483647 := by intros; first | assumption | omega | (split <;> omega))
    (v2 : -2147483648 ≤ (20 * x1) + 9 ∧ (20 * x1) + 9 ≤ 2147483647 := by intros; first | assumption | omega | (split <;> omega))
    (v3 : 0 ≤ x1 ∧ x1 < 4 := by intros; first | assumption | omega | (split <;> omega))
    (v4 : mPc (I 162) x1 := by intros; first | assumption | omega | (split <;> omega))
    (v5 : 0 ≤ (20 * x1) + 9 ∧ (20 * x1) + 9 < (80 : Nat) := by intros; first | assumption | omega | (split <;> omega))
    (v6 : -2147483648 ≤ J1 156 16 + 1 ∧ J1 156 16 + 1 ≤ 2147483647 := by intros; first | assumption | omega | (split <;> omega)) : L_X12_readsPiece_194 d 156 x1 I S h1 :=
  
  b_X12_readsPiece_194 (ly_X12_22 hl0) v1 v2 (c_X12_ringOf (by first | decide | exact (show 80 = 80 from by decide)) v3 v4) (
  b_X12_readsPiece_213 v5 g1 (ev_retV e1 (b_X12_readsPiece_219 v6)))
end
