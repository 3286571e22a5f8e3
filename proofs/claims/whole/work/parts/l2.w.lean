noncomputable section
theorem w_X5_readVertex_0 {d : Nat} {I : Nat → Nat → Int} {S : PS} {a1 : Nat} {J1 : Nat → Nat → Int} {z1 : Int} {v : Int} {h1 : PM} (hl0 : LyX10 S) (hl1 : LyX3 S a1)
    (g1 : Ca (d + 3) mX5_readNumber [vR (some (20, 0, 32)), vI 0, vI 9999] (I, S) (.inl (some (vI z1))) (J1, S))
    (r1 : (z1 = 0) → (J1 a1 4 ≤ J1 32 5) → 3 = v := by intros; first | rfl | (exfalso; omega) | contradiction | (exfalso; simp_all; done))
    (e1 : (z1 = 0) → (J1 a1 4 ≤ J1 32 5) → (J1, S) = h1 := by intros; first | rfl | (exfalso; omega) | contradiction | (exfalso; simp_all; done))
    (r2 : (z1 = 0) → (J1 32 5 < J1 a1 4) → 0 = v := by intros; first | rfl | (exfalso; omega) | contradiction | (exfalso; simp_all; done))
    (e2 : (z1 = 0) → (J1 32 5 < J1 a1 4) → (J1, S) = h1 := by intros; first | rfl | (exfalso; omega) | contradiction | (exfalso; simp_all; done))
    (r3 : (z1 ≠ 0) → z1 = v := by intros; first | rfl | (exfalso; omega) | contradiction | (exfalso; simp_all; done))
    (e3 : (z1 ≠ 0) → (J1, S) = h1 := by intros; first | rfl | (exfalso; omega) | contradiction | (exfalso; simp_all; done)) : Ca (d + 4) mX5_readVertex [vR (some (20, 0, 32)), vR (some (14, 0, a1))] (I, S) (.inl (some (vI v))) h1 :=
  Ca.of rfl rfl (
  b_X5_readVertex_0  g1 (
  b_X5_readVertex_8  (fun (c1 : z1 = 0) => 
    b_X5_readVertex_15  (fun (c3 : J1 a1 4 ≤ J1 32 5) => 
      b_X5_readVertex_30  (ev_ret2 (r1 c1 c3) (e1 c1 c3) (b_X5_readVertex_31 ))) (fun (c4 : J1 32 5 < J1 a1 4) => 
      b_X5_readVertex_26  (ev_ret2 (r2 c1 c4) (e2 c1 c4) (b_X5_readVertex_31 )))) (fun (c2 : z1 ≠ 0) => ev_ret2 (r3 c2) (e3 c2) (b_X5_readVertex_13 ))))
abbrev L_X5_readJoin_60 (d : Nat) (a0 : Nat) (a1 : Nat) (a2 : Nat) (x3 : Int) (x4 : Int) (I : Nat → Nat → Int) (S : PS) (v : Int) (h1 : PM) : Prop := Ev (d + 5) mX5_readJoin (60, [some (vR (some (20, 0, a0))), some (vR (some (11, 0, a1))), some (vR (some (14, 0, a2))), some (vI x3), some (vI x4)], [], (I, S)) (.inl (some (vI v)), h1)
theorem w_X5_readJoin_0 {d : Nat} {I : Nat → Nat → Int} {S : PS} {a1 : Nat} {J1 J2 : Nat → Nat → Int} {z1 z2 : Int} {v : Int} {h1 : PM} (hl0 : LyX10 S) (hl1 : LyX0 S a1)
    (g1 : (1 ≤ I a1 1) → (I (a1 + 7 + 9 * (I a1 1 - 1).toNat) 6 < 4) → Ca (d + 4) mX5_readVertex [vR (some (20, 0, 32)), vR (some (14, 0, (a1 + 7 + 9 * (I a1 1 - 1).toNat)))] (I, S) (.inl (some (vI z1))) (J1, S))
    (k1 : (1 ≤ I a1 1) → (I (a1 + 7 + 9 * (I a1 1 - 1).toNat) 6 < 4) → (z1 ≠ 0) → (z1 = 0) → L_X5_readJoin_60 d 32 a1 (a1 + 7 + 9 * (I a1 1 - 1).toNat) z1 (J1 32 5) J1 S v h1)
    (g2 : (1 ≤ I a1 1) → (I (a1 + 7 + 9 * (I a1 1 - 1).toNat) 6 < 4) → (z1 = 0) → Ca (d + 4) mX5_readVertex [vR (some (20, 0, 32)), vR (some (14, 0, (a1 + 7 + 9 * (I a1 1 - 1).toNat)))] (J1, S) (.inl (some (vI z2))) (J2, S))
    (k2 : (1 ≤ I a1 1) → (I (a1 + 7 + 9 * (I a1 1 - 1).toNat) 6 < 4) → (z1 = 0) → (z2 = 0) → L_X5_readJoin_60 d 32 a1 (a1 + 7 + 9 * (I a1 1 - 1).toNat) z2 (J1 32 5) J2 S v h1)
    (r1 : (1 ≤ I a1 1) → (I (a1 + 7 + 9 * (I a1 1 - 1).toNat) 6 < 4) → (z1 ≠ 0) → (z1 ≠ 0) → z1 = v)
    (e1 : (1 ≤ I a1 1) → (I (a1 + 7 + 9 * (I a1 1 - 1).toNat) 6 < 4) → (z1 ≠ 0) → (z1 ≠ 0) → (J1, S) = h1 := by intros; first | rfl | (exfalso; omega) | contradiction | (exfalso; simp_all; done))
    (r2 : (1 ≤ I a1 1) → (I (a1 + 7 + 9 * (I a1 1 - 1).toNat) 6 < 4) → (z1 = 0) → (z2 ≠ 0) → z2 = v)
    (e2 : (1 ≤ I a1 1) → (I (a1 + 7 + 9 * (I a1 1 - 1).toNat) 6 < 4) → (z1 = 0) → (z2 ≠ 0) → (J2, S) = h1 := by intros; first | rfl | (exfalso; omega) | contradiction | (exfalso; simp_all; done))
    (r3 : (1 ≤ I a1 1) → (4 ≤ I (a1 + 7 + 9 * (I a1 1 - 1).toNat) 6) → 2 = v)
    (e3 : (1 ≤ I a1 1) → (4 ≤ I (a1 + 7 + 9 * (I a1 1 - 1).toNat) 6) → (I, S) = h1 := by intros; first | rfl | (exfalso; omega) | contradiction | (exfalso; simp_all; done))
    (r4 : (I a1 1 < 1) → 3 = v)
    (e4 : (I a1 1 < 1) → (I, S) = h1 := by intros; first | rfl | (exfalso; omega) | contradiction | (exfalso; simp_all; done))
    (v1 : (1 ≤ I a1 1) → 0 ≤ I a1 1 - 1 ∧ I a1 1 - 1 < (4 : Nat) := by intros; first | assumption | omega | (split <;> omega))
    (v2 : (1 ≤ I a1 1) → -2147483648 ≤ I a1 1 - 1 ∧ I a1 1 - 1 ≤ 2147483647 := by intros; first | assumption | omega | (split <;> omega)) : Ca (d + 5) mX5_readJoin [vR (some (20, 0, 32)), vR (some (11, 0, a1))] (I, S) (.inl (some (vI v))) h1 :=
  Ca.of rfl rfl (
  b_X5_readJoin_0  (fun (c1 : 1 ≤ I a1 1) => 
    b_X5_readJoin_10 (ly_X0_0 hl1) (v2 c1) (v1 c1) (ly_X0_a hl1 (idxN (v1 c1))) (fun (c3 : I (a1 + 7 + 9 * (I a1 1 - 1).toNat) 6 < 4) => 
      b_X5_readJoin_32  (g1 c1 c3) (
      b_X5_readJoin_37  (fun (c5 : z1 ≠ 0) => 
        b_X5_readJoin_54  (fun (c7 : z1 = 0) => (k1 c1 c3 c5 c7)) (fun (c8 : z1 ≠ 0) => ev_ret2 (r1 c1 c3 c5 c8) (e1 c1 c3 c5 c8) (b_X5_readJoin_58 ))) (fun (c6 : z1 = 0) => 
        b_X5_readJoin_48  (g2 c1 c3 c6) (
        b_X5_readJoin_53  (
        b_X5_readJoin_54  (fun (c9 : z2 = 0) => (k2 c1 c3 c6 c9)) (fun (c10 : z2 ≠ 0) => ev_ret2 (r2 c1 c3 c6 c10) (e2 c1 c3 c6 c10) (b_X5_readJoin_58 ))))))) (fun (c4 : 4 ≤ I (a1 + 7 + 9 * (I a1 1 - 1).toNat) 6) => ev_ret2 (r3 c1 c4) (e3 c1 c4) (b_X5_readJoin_30 ))) (fun (c2 : I a1 1 < 1) => ev_ret2 (r4 c2) (e4 c2) (b_X5_readJoin_8 )))
theorem w_X5_readJoin_60 {d : Nat} {I : Nat → Nat → Int} {S : PS} {a1 a2 : Nat} {x3 x4 : Int} {J1 J2 : Nat → Nat → Int} {z1 : Bool} {v : Int} {h1 : PM} (hl0 : LyX10 S) (hl1 : LyX0 S a1) (hl2 : LyX3 S a2)
    (g1 : Ca (d + 4) mX3_addJoin [vR (some (14, 0, a2)), vI x4, vI (I 32 5)] (I, S) (.inl (some (vI (if z1 = true then (1 : Int) else 0)))) (J1, S))
    (g2 : (z1 = true) → Ca (d + 4) mX10_advance [vR (some (20, 0, 32))] (J1, S) (.inl none) (J2, S))
    (r1 : (z1 = true) → (if J2 32 3 ≠ 3 then (1 : Int) else 0) = v)
    (e1 : (z1 = true) → (J2, S) = h1 := by intros; first | rfl | (exfalso; omega) | contradiction | (exfalso; simp_all; done))
    (r2 : (¬(z1 = true)) → 4 = v)
    (e2 : (¬(z1 = true)) → (J1, S) = h1 := by intros; first | rfl | (exfalso; omega) | contradiction | (exfalso; simp_all; done)) : L_X5_readJoin_60 d 32 a1 a2 x3 x4 I S v h1 :=
  
  b_X5_readJoin_60  g1 (
  b_X5_readJoin_70  (fun c1' => have c1 : z1 = true := b2t c1'; 
    b_X5_readJoin_75  (g2 c1) (
    have K4 : ∀ us0 : Int, us0 = (if J2 32 3 ≠ 3 then (1 : Int) else 0) → Ev (d + 5) mX5_readJoin (92, [some (vR (some (20, 0, 32))), some (vR (some (11, 0, a1))), some (vR (some (14, 0, a2))), some (vI x3), some (vI x4)], [vI us0], (J2, S)) (.inl (some (vI v)), h1) := fun us0 e_us0 => by subst e_us0; exact (ev_ret2 (r1 c1) (e1 c1) (b_X5_readJoin_92 ))
    
    b_X5_readJoin_79  (fun (c3 : J2 32 3 ≠ 3) => 
      b_X5_readJoin_91  (K4 1 (if_pos c3).symm)) (fun (c4 : J2 32 3 = 3) => 
      b_X5_readJoin_87  (K4 0 (if_neg (fun q => q c4)).symm)))) (fun c2' => have c2 : ¬(z1 = true) := b2f c2'; ev_ret2 (r2 c2) (e2 c2) (b_X5_readJoin_73 )))
abbrev L_X12_readsJoin_78 (d : Nat) (a0 : Nat) (x1 : Int) (x2 : Int) (x3 : Int) (x4 : Int) (x5 : Int) (I : Nat → Nat → Int) (S : PS) (h1 : PM) : Prop := Ev (d + 4) mX12_readsJoin (78, [some (vR (some (22, 0, a0))), some (vI x1), some (vI x2), some (vI x3), some (vI x4), some (vI x5), none, none, none, none, none], [], (I, S)) (.inl none, h1)
abbrev L_X12_readsJoin_86 (d : Nat) (a0 : Nat) (x1 : Int) (x2 : Int) (x3 : Int) (x4 : Int) (x5 : Int) (I : Nat → Nat → Int) (S : PS) (h1 : PM) : Prop := Ev (d + 4) mX12_readsJoin (86, [some (vR (some (22, 0, a0))), some (vI x1), some (vI x2), some (vI x3), some (vI x4), some (vI x5), none, none, none, none, none], [], (I, S)) (.inl none, h1)
abbrev L_X12_readsJoin_118 (d : Nat) (a0 : Nat) (x1 : Int) (x2 : Int) (x3 : Int) (x4 : Int) (x5 : Int) (x6 : Int) (I : Nat → Nat → Int) (S : PS) (h1 : PM) : Prop := Ev (d + 4) mX12_readsJoin (118, [some (vR (some (22, 0, a0))), some (vI x1), some (vI x2), some (vI x3), some (vI x4), some (vI x5), some (vI x6), none, none, none, none], [], (I, S)) (.inl none, h1)
abbrev L_X12_readsJoin_126 (d : Nat) (a0 : Nat) (x1 : Int) (x2 : Int) (x3 : Int) (x4 : Int) (x5 : Int) (x6 : Int) (I : Nat → Nat → Int) (S : PS) (h1 : PM) : Prop := Ev (d + 4) mX12_readsJoin (126, [some (vR (some (22, 0, a0))), some (vI x1), some (vI x2), some (vI x3), some (vI x4), some (vI x5), some (vI x6), none, none, none, none], [], (I, S)) (.inl none, h1)
abbrev L_X12_readsJoin_169 (d : Nat) (a0 : Nat) (x1 : Int) (x2 : Int) (x3 : Int) (x4 : Int) (x5 : Int) (x6 : Int) (x7 : Int) (x8 : Int) (I : Nat → Nat → Int) (S : PS) (h1 : PM) : Prop := Ev (d + 4) mX12_readsJoin (169, [some (vR (some (22, 0, a0))), some (vI x1), some (vI x2), some (vI x3), some (vI x4), some (vI x5), some (vI x6), some (vI x7), some (vI x8), none, none], [], (I, S)) (.inl none, h1)
abbrev L_X12_readsJoin_262 (d : Nat) (a0 : Nat) (x1 : Int) (x2 : Int) (x3 : Int) (x4 : Int) (x5 : Int) (x6 : Int) (x7 : Int) (x8 : Int) (I : Nat → Nat → Int) (S : PS) (h1 : PM) : Prop := Ev (d + 4) mX12_readsJoin (262, [some (vR (some (22, 0, a0))), some (vI x1), some (vI x2), some (vI x3), some (vI x4), some (vI x5), some (vI x6), some (vI x7), some (vI x8), none, none], [], (I, S)) (.inl none, h1)
abbrev L_X12_readsJoin_272 (d : Nat) (a0 : Nat) (x1 : Int) (x2 : Int) (x3 : Int) (x4 : Int) (x5 : Int) (x6 : Int) (x7 : Int) (x8 : Int) (I : Nat → Nat → Int) (S : PS) (h1 : PM) : Prop := Ev (d + 4) mX12_readsJoin (272, [some (vR (some (22, 0, a0))), some (vI x1), some (vI x2), some (vI x3), some (vI x4), some (vI x5), some (vI x6), some (vI x7), some (vI x8), none, none], [], (I, S)) (.inl none, h1)
abbrev L_X12_readsJoin_280 (d : Nat) (a0 : Nat) (x1 : Int) (x2 : Int) (x3 : Int) (x4 : Int) (x5 : Int) (x6 : Int) (x7 : Int) (x8 : Int) (I : Nat → Nat → Int) (S : PS) (h1 : PM) : Prop := Ev (d + 4) mX12_readsJoin (280, [some (vR (some (22, 0, a0))), some (vI x1), some (vI x2), some (vI x3), some (vI x4), some (vI x5), some (vI x6), some (vI x7), some (vI x8), none, none], [], (I, S)) (.inl none, h1)
theorem w_X12_readsJoin_0 {d : Nat} {I : Nat → Nat → Int} {S : PS} {J1 J2 : Nat → Nat → Int} {z1 : Int} {h1 : PM} (hl0 : LyX12 S)
    (g1 : Ca (d + 3) mX12_numberHere [vR (some (22, 0, 156)), vI 0, vI 9999] (I, S) (.inl (some (vI z1))) (J1, S))
    (k1 : (¬(J1 156 3 = 0)) → L_X12_readsJoin_78 d 156 (I 156 16 - 1) (I 162 ((20 * (I 156 16 - 1)) + 9).toNat) (((I 162 ((20 * (I 156 16 - 1)) + 9).toNat) + 1) + (I 162 ((20 * (I 156 16 - 1)) + 1).toNat)) (I 162 ((20 * (I 156 16 - 1)) + 10).toNat) z1 J1 S h1)
    (k2 : (J1 156 3 = 0) → (z1 < ((I 162 ((20 * (I 156 16 - 1)) + 9).toNat) + 1) + (I 162 ((20 * (I 156 16 - 1)) + 1).toNat)) → L_X12_readsJoin_78 d 156 (I 156 16 - 1) (I 162 ((20 * (I 156 16 - 1)) + 9).toNat) (((I 162 ((20 * (I 156 16 - 1)) + 9).toNat) + 1) + (I 162 ((20 * (I 156 16 - 1)) + 1).toNat)) (I 162 ((20 * (I 156 16 - 1)) + 10).toNat) z1 J1 S h1)
    (g2 : (J1 156 3 = 0) → (((I 162 ((20 * (I 156 16 - 1)) + 9).toNat) + 1) + (I 162 ((20 * (I 156 16 - 1)) + 1).toNat) ≤ z1) → Ca (d + 3) mX12_wrong [vR (some (22, 0, 156)), vI 3] (J1, S) (.inl none) (J2, S))
    (k3 : (J1 156 3 = 0) → (((I 162 ((20 * (I 156 16 - 1)) + 9).toNat) + 1) + (I 162 ((20 * (I 156 16 - 1)) + 1).toNat) ≤ z1) → L_X12_readsJoin_78 d 156 (I 156 16 - 1) (I 162 ((20 * (I 156 16 - 1)) + 9).toNat) (((I 162 ((20 * (I 156 16 - 1)) + 9).toNat) + 1) + (I 162 ((20 * (I 156 16 - 1)) + 1).toNat)) (I 162 ((20 * (I 156 16 - 1)) + 10).toNat) z1 J2 S h1)
    (v1 : -2147483648 ≤ I 156 16 - 1 ∧ I 156 16 - 1 ≤ 2147483647 := by intros; first | assumption | omega | (split <;> omega))
    (v2 : -2147483648 ≤ 20 * (I 156 16 - 1) ∧ 20 * (I 156 16 - 1) ≤ 2147483647 := by intros; first | assumption | omega | (split <;> omega))
    (v3 : -2147483648 ≤ (20 * (I 156 16 - 1)) + 9 ∧ (20 * (I 156 16 - 1)) + 9 ≤ 2147483647 := by intros; first | assumption | omega | (split <;> omega))
    (v4 : 0 ≤ (20 * (I 156 16 - 1)) + 9 ∧ (20 * (I 156 16 - 1)) + 9 < (80 : Nat) := by intros; first | assumption | omega | (split <;> omega))
    (v5 : -2147483648 ≤ (I 162 ((20 * (I 156 16 - 1)) + 9).toNat) + 1 ∧ (I 162 ((20 * (I 156 16 - 1)) + 9).toNat) + 1 ≤ 2147483647 := by intros; first | assumption | omega | (split <;> omega))
    (v6 : -2147483648 ≤ (20 * (I 156 16 - 1)) + 1 ∧ (20 * (I 156 16 - 1)) + 1 ≤ 2147483647 := by intros; first | assumption | omega | (split <;> omega))
    (v7 : 0 ≤ (20 * (I 156 16 - 1)) + 1 ∧ (20 * (I 156 16 - 1)) + 1 < (80 : Nat) := by intros; first | assumption | omega | (split <;> omega))
    (v8 : -2147483648 ≤ ((I 162 ((20 * (I 156 16 - 1)) + 9).toNat) + 1) + (I 162 ((20 * (I 156 16 - 1)) + 1).toNat) ∧ ((I 162 ((20 * (I 156 16 - 1)) + 9).toNat) + 1) + (I 162 ((20 * (I 156 16 - 1)) + 1).toNat) ≤ 2147483647 := by intros; first | assumption | omega | (split <;> omega))
    (v9 : -2147483648 ≤ (20 * (I 156 16 - 1)) + 10 ∧ (20 * (I 156 16 - 1)) + 10 ≤ 2147483647 := by intros; first | assumption | omega | (split <;> omega))
    (v10 : 0 ≤ (20 * (I 156 16 - 1)) + 10 ∧ (20 * (I 156 16 - 1)) + 10 < (80 : Nat) := by intros; first | assumption | omega | (split <;> omega)) : Ca (d + 4) mX12_readsJoin [vR (some (22, 0, 156))] (I, S) (.inl none) h1 :=
  Ca.of rfl rfl (
  b_X12_readsJoin_0 v1 (ly_X12_22 hl0) v2 v3 v4 v5 v2 v6 v7 v8 v2 v9 v10 g1 (
  b_X12_readsJoin_58  (c_X12_isGood hl0) (
  b_X12_readsJoin_64  (fun c1' => have c1 : ¬(J1 156 3 = 0) := b2f c1'; (k1 c1)) (fun c2' => have c2 : J1 156 3 = 0 := b2t c2'; 
    b_X12_readsJoin_67  (fun (c3 : z1 < ((I 162 ((20 * (I 156 16 - 1)) + 9).toNat) + 1) + (I 162 ((20 * (I 156 16 - 1)) + 1).toNat)) => (k2 c2 c3)) (fun (c4 : ((I 162 ((20 * (I 156 16 - 1)) + 9).toNat) + 1) + (I 162 ((20 * (I 156 16 - 1)) + 1).toNat) ≤ z1) => 
      b_X12_readsJoin_73  (g2 c2 c4) ((k3 c2 c4)))))))
theorem w_X12_readsJoin_78 {d : Nat} {I : Nat → Nat → Int} {S : PS} {x1 x2 x3 x4 x5 : Int} {h1 : PM} (hl0 : LyX12 S)
    (k1 : (I 156 3 = 0) → L_X12_readsJoin_86 d 156 x1 x2 x3 x4 x5 I S h1)
    (e1 : (¬(I 156 3 = 0)) → (I, S) = h1 := by intros; first | rfl | (exfalso; omega) | contradiction | (exfalso; simp_all; done)) : L_X12_readsJoin_78 d 156 x1 x2 x3 x4 x5 I S h1 :=
  
  b_X12_readsJoin_78  (c_X12_isGood hl0) (
  b_X12_readsJoin_82  (fun c1' => have c1 : I 156 3 = 0 := b2t c1'; (k1 c1)) (fun c2' => have c2 : ¬(I 156 3 = 0) := b2f c2'; ev_retV (e1 c2) (b_X12_readsJoin_85 )))
theorem w_X12_readsJoin_86 {d : Nat} {I : Nat → Nat → Int} {S : PS} {x1 x2 x3 x4 x5 z2 : Int} {J1 J2 J3 : Nat → Nat → Int} {h1 : PM} (hl0 : LyX12 S)
    (g1 : Ca (d + 3) mX12_goes [vR (some (22, 0, 156))] (I, S) (.inl none) (J1, S))
    (g2 : Ca (d + 3) mX12_numberHere [vR (some (22, 0, 156)), vI 0, vI 9999] (J1, S) (.inl (some (vI z2))) (J2, S))
    (k1 : (¬(J2 156 3 = 0)) → L_X12_readsJoin_118 d 156 x1 x2 x3 x4 x5 z2 J2 S h1)
    (k2 : (J2 156 3 = 0) → (z2 < x3) → L_X12_readsJoin_118 d 156 x1 x2 x3 x4 x5 z2 J2 S h1)
    (g3 : (J2 156 3 = 0) → (x3 ≤ z2) → Ca (d + 3) mX12_wrong [vR (some (22, 0, 156)), vI 3] (J2, S) (.inl none) (J3, S))
    (k3 : (J2 156 3 = 0) → (x3 ≤ z2) → L_X12_readsJoin_118 d 156 x1 x2 x3 x4 x5 z2 J3 S h1) : L_X12_readsJoin_86 d 156 x1 x2 x3 x4 x5 I S h1 :=
  
  b_X12_readsJoin_86  g1 (
  b_X12_readsJoin_90  g2 (
  b_X12_readsJoin_98  (c_X12_isGood hl0) (
  b_X12_readsJoin_104  (fun c1' => have c1 : ¬(J2 156 3 = 0) := b2f c1'; (k1 c1)) (fun c2' => have c2 : J2 156 3 = 0 := b2t c2'; 
    b_X12_readsJoin_107  (fun (c3 : z2 < x3) => (k2 c2 c3)) (fun (c4 : x3 ≤ z2) => 
      b_X12_readsJoin_113  (g3 c2 c4) ((k3 c2 c4)))))))
theorem w_X12_readsJoin_118 {d : Nat} {I : Nat → Nat → Int} {S : PS} {x1 x2 x3 x4 x5 x6 : Int} {h1 : PM} (hl0 : LyX12 S)
    (k1 : (I 156 3 = 0) → L_X12_readsJoin_126 d 156 x1 x2 x3 x4 x5 x6 I S h1)
    (e1 : (¬(I 156 3 = 0)) → (I, S) = h1 := by intros; first | rfl | (exfalso; omega) | contradiction | (exfalso; simp_all; done)) : L_X12_readsJoin_118 d 156 x1 x2 x3 x4 x5 x6 I S h1 :=
  
  b_X12_readsJoin_118  (c_X12_isGood hl0) (
  b_X12_readsJoin_122  (fun c1' => have c1 : I 156 3 = 0 := b2t c1'; (k1 c1)) (fun c2' => have c2 : ¬(I 156 3 = 0) := b2f c2'; ev_retV (e1 c2) (b_X12_readsJoin_125 )))
theorem w_X12_readsJoin_126 {d : Nat} {I : Nat → Nat → Int} {S : PS} {x1 x2 x3 x4 x5 x6 : Int} {h1 : PM} (hl0 : LyX12 S)
    (k1 : L_X12_readsJoin_169 d 156 x1 x2 x3 x4 x5 x6 (if (p_and (p_shr (I 166 ((15 * x1) + x5).toNat) x6) 1 = 1) ∧ ((x2 ≤ x5) ∨ (x2 ≤ x6)) then (1 : Int) else 0) 0 I S h1)
    (v1 : -2147483648 ≤ 15 * x1 ∧ 15 * x1 ≤ 2147483647 := by intros; first | assumption | omega | (split <;> omega))
    (v2 : -2147483648 ≤ (15 * x1) + x5 ∧ (15 * x1) + x5 ≤ 2147483647 := by intros; first | assumption | omega | (split <;> omega))
    (v3 : 0 ≤ (15 * x1) + x5 ∧ (15 * x1) + x5 < (60 : Nat) := by intros; first | assumption | omega | (split <;> omega)) : L_X12_readsJoin_126 d 156 x1 x2 x3 x4 x5 x6 I S h1 :=
  
  have K6 : ∀ us0 : Int, us0 = (if (p_and (p_shr (I 166 ((15 * x1) + x5).toNat) x6) 1 = 1) ∧ ((x2 ≤ x5) ∨ (x2 ≤ x6)) then (1 : Int) else 0) → Ev (d + 4) mX12_readsJoin (164, [some (vR (some (22, 0, 156))), some (vI x1), some (vI x2), some (vI x3), some (vI x4), some (vI x5), some (vI x6), none, none, none, none], [vI us0], (I, S)) (.inl none, h1) := fun us0 e_us0 => by subst e_us0; exact (
    b_X12_readsJoin_164  (k1))
  
  b_X12_readsJoin_126 (ly_X12_26 hl0) v1 v2 v3 (fun (c1 : p_and (p_shr (I 166 ((15 * x1) + x5).toNat) x6) 1 ≠ 1) => 
    b_X12_readsJoin_163  (K6 0 (if_neg (fun q => c1 q.1)).symm)) (fun (c2 : p_and (p_shr (I 166 ((15 * x1) + x5).toNat) x6) 1 = 1) => 
    b_X12_readsJoin_147  (fun (c3 : x2 ≤ x5) => 
      b_X12_readsJoin_159  (K6 1 (if_pos ⟨c2, (Or.inl c3)⟩).symm)) (fun (c4 : x5 < x2) => 
      b_X12_readsJoin_153  (fun (c5 : x6 < x2) => 
        b_X12_readsJoin_163  (K6 0 (if_neg (fun q => (fun q => q.elim (Int.not_le.mpr c4) (Int.not_le.mpr c5)) q.2)).symm)) (fun (c6 : x2 ≤ x6) => 
        b_X12_readsJoin_159  (K6 1 (if_pos ⟨c2, (Or.inr c6)⟩).symm))))
theorem w_X12_readsJoin_169 {d : Nat} {I : Nat → Nat → Int} {S : PS} {x1 x2 x3 x4 x5 x6 x7 x8 : Int} {h1 : PM} (hl0 : LyX12 S)
    (k1 : (x4 ≤ x8) → L_X12_readsJoin_262 d 156 x1 x2 x3 x4 x5 x6 x7 x8 I S h1)
    (k2 : (x8 < x4) → L_X12_readsJoin_169 d 156 x1 x2 x3 x4 x5 x6 (if (x7 ≠ 0) ∧ (((I 162 (((20 * x1) + 11) + (2 * x8)).toNat ≠ x5) ∧ ((I 162 (((20 * x1) + 11) + (2 * x8)).toNat ≠ x6) ∨ (I 162 ((((20 * x1) + 11) + (2 * x8)) + 1).toNat ≠ x5))) ∨ ((I 162 (((20 * x1) + 11) + (2 * x8)).toNat = x5) ∧ ((I 162 ((((20 * x1) + 11) + (2 * x8)) + 1).toNat ≠ x6) ∧ ((I 162 (((20 * x1) + 11) + (2 * x8)).toNat ≠ x6) ∨ (I 162 ((((20 * x1) + 11) + (2 * x8)) + 1).toNat ≠ x5))))) then (1 : Int) else 0) (x8 + 1) I S h1)
    (v1 : (x8 < x4) → -2147483648 ≤ 20 * x1 ∧ 20 * x1 ≤ 2147483647 := by intros; first | assumption | omega | (split <;> omega))
    (v2 : (x8 < x4) → -2147483648 ≤ (20 * x1) + 11 ∧ (20 * x1) + 11 ≤ 2147483647 := by intros; first | assumption | omega | (split <;> omega))
    (v3 : (x8 < x4) → -2147483648 ≤ 2 * x8 ∧ 2 * x8 ≤ 2147483647 := by intros; first | assumption | omega | (split <;> omega))
    (v4 : (x8 < x4) → -2147483648 ≤ ((20 * x1) + 11) + (2 * x8) ∧ ((20 * x1) + 11) + (2 * x8) ≤ 2147483647 := by intros; first | assumption | omega | (split <;> omega))
    (v5 : (x8 < x4) → 0 ≤ ((20 * x1) + 11) + (2 * x8) ∧ ((20 * x1) + 11) + (2 * x8) < (80 : Nat) := by intros; first | assumption | omega | (split <;> omega))
    (v6 : (x8 < x4) → -2147483648 ≤ (((20 * x1) + 11) + (2 * x8)) + 1 ∧ (((20 * x1) + 11) + (2 * x8)) + 1 ≤ 2147483647 := by intros; first | assumption | omega | (split <;> omega))
    (v7 : (x8 < x4) → 0 ≤ (((20 * x1) + 11) + (2 * x8)) + 1 ∧ (((20 * x1) + 11) + (2 * x8)) + 1 < (80 : Nat) := by intros; first | assumption | omega | (split <;> omega))
    (v8 : (x8 < x4) → -2147483648 ≤ x8 + 1 ∧ x8 + 1 ≤ 2147483647 := by intros; first | assumption | omega | (split <;> omega)) : L_X12_readsJoin_169 d 156 x1 x2 x3 x4 x5 x6 x7 x8 I S h1 :=
  
  b_X12_readsJoin_169  (fun (c1 : x4 ≤ x8) => (k1 c1)) (fun (c2 : x8 < x4) => 
    have K16 : ∀ us0 : Int, us0 = (if (x7 ≠ 0) ∧ (((I 162 (((20 * x1) + 11) + (2 * x8)).toNat ≠ x5) ∧ ((I 162 (((20 * x1) + 11) + (2 * x8)).toNat ≠ x6) ∨ (I 162 ((((20 * x1) + 11) + (2 * x8)) + 1).toNat ≠ x5))) ∨ ((I 162 (((20 * x1) + 11) + (2 * x8)).toNat = x5) ∧ ((I 162 ((((20 * x1) + 11) + (2 * x8)) + 1).toNat ≠ x6) ∧ ((I 162 (((20 * x1) + 11) + (2 * x8)).toNat ≠ x6) ∨ (I 162 ((((20 * x1) + 11) + (2 * x8)) + 1).toNat ≠ x5))))) then (1 : Int) else 0) → Ev (d + 4) mX12_readsJoin (254, [some (vR (some (22, 0, 156))), some (vI x1), some (vI x2), some (vI x3), some (vI x4), some (vI x5), some (vI x6), some (vI x7), some (vI x8), some (vI (I 162 (((20 * x1) + 11) + (2 * x8)).toNat)), some (vI (I 162 ((((20 * x1) + 11) + (2 * x8)) + 1).toNat))], [vI us0], (I, S)) (.inl none, h1) := fun us0 e_us0 => by subst e_us0; exact (
      b_X12_readsJoin_254 (v8 c2) ((k2 c2)))
    
    b_X12_readsJoin_176 (ly_X12_22 hl0) (v1 c2) (v2 c2) (v3 c2) (v4 c2) (v5 c2) (v1 c2) (v2 c2) (v3 c2) (v4 c2) (v6 c2) (v7 c2) (fun (c3 : x7 = 0) => 
      b_X12_readsJoin_253  (K16 0 (if_neg (fun q => (fun q => q c3) q.1)).symm)) (fun (c4 : x7 ≠ 0) => 
      b_X12_readsJoin_221  (fun (c5 : I 162 (((20 * x1) + 11) + (2 * x8)).toNat ≠ x5) => 
        b_X12_readsJoin_235  (fun (c7 : I 162 (((20 * x1) + 11) + (2 * x8)).toNat ≠ x6) => 
          b_X12_readsJoin_249  (K16 1 (if_pos ⟨c4, (Or.inl ⟨c5, (Or.inl c7)⟩)⟩).symm)) (fun (c8 : I 162 (((20 * x1) + 11) + (2 * x8)).toNat = x6) => 
          b_X12_readsJoin_242  (fun (c9 : I 162 ((((20 * x1) + 11) + (2 * x8)) + 1).toNat = x5) => 
            b_X12_readsJoin_253  (K16 0 (if_neg (fun q => (fun q => q.elim (fun q => (fun q => q.elim (fun q => q c8) (fun q => q c9)) q.2) (fun q => c5 q.1)) q.2)).symm)) (fun (c10 : I 162 ((((20 * x1) + 11) + (2 * x8)) + 1).toNat ≠ x5) => 
            b_X12_readsJoin_249  (K16 1 (if_pos ⟨c4, (Or.inl ⟨c5, (Or.inr c10)⟩)⟩).symm)))) (fun (c6 : I 162 (((20 * x1) + 11) + (2 * x8)).toNat = x5) => 
        b_X12_readsJoin_228  (fun (c11 : I 162 ((((20 * x1) + 11) + (2 * x8)) + 1).toNat = x6) => 
          b_X12_readsJoin_253  (K16 0 (if_neg (fun q => (fun q => q.elim (fun q => (fun q => q c6) q.1) (fun q => (fun q => (fun q => q c11) q.1) q.2)) q.2)).symm)) (fun (c12 : I 162 ((((20 * x1) + 11) + (2 * x8)) + 1).toNat ≠ x6) => 
          b_X12_readsJoin_235  (fun (c13 : I 162 (((20 * x1) + 11) + (2 * x8)).toNat ≠ x6) => 
            b_X12_readsJoin_249  (K16 1 (if_pos ⟨c4, (Or.inr ⟨c6, ⟨c12, (Or.inl c13)⟩⟩)⟩).symm)) (fun (c14 : I 162 (((20 * x1) + 11) + (2 * x8)).toNat = x6) => 
            b_X12_readsJoin_242  (fun (c15 : I 162 ((((20 * x1) + 11) + (2 * x8)) + 1).toNat = x5) => 
              b_X12_readsJoin_253  (K16 0 (if_neg (fun q => (fun q => q.elim (fun q => (fun q => q c6) q.1) (fun q => (fun q => (fun q => q.elim (fun q => q c14) (fun q => q c15)) q.2) q.2)) q.2)).symm)) (fun (c16 : I 162 ((((20 * x1) + 11) + (2 * x8)) + 1).toNat ≠ x5) => 
              b_X12_readsJoin_249  (K16 1 (if_pos ⟨c4, (Or.inr ⟨c6, ⟨c12, (Or.inr c16)⟩⟩)⟩).symm)))))))
theorem w_X12_readsJoin_262 {d : Nat} {I : Nat → Nat → Int} {S : PS} {x1 x2 x3 x4 x5 x6 x7 x8 : Int} {J1 : Nat → Nat → Int} {h1 : PM} (hl0 : LyX12 S)
    (k1 : (x7 ≠ 0) → L_X12_readsJoin_272 d 156 x1 x2 x3 x4 x5 x6 x7 x8 I S h1)
    (g1 : (x7 = 0) → Ca (d + 3) mX12_wrong [vR (some (22, 0, 156)), vI 4] (I, S) (.inl none) (J1, S))
    (k2 : (x7 = 0) → L_X12_readsJoin_272 d 156 x1 x2 x3 x4 x5 x6 x7 x8 J1 S h1) : L_X12_readsJoin_262 d 156 x1 x2 x3 x4 x5 x6 x7 x8 I S h1 :=
  
  b_X12_readsJoin_262  (fun (c1 : x7 ≠ 0) => (k1 c1)) (fun (c2 : x7 = 0) => 
    b_X12_readsJoin_267  (g1 c2) ((k2 c2)))
theorem w_X12_readsJoin_272 {d : Nat} {I : Nat → Nat → Int} {S : PS} {x1 x2 x3 x4 x5 x6 x7 x8 : Int} {h1 : PM} (hl0 : LyX12 S)
    (k1 : (I 156 3 = 0) → L_X12_readsJoin_280 d 156 x1 x2 x3 x4 x5 x6 x7 x8 I S h1)
    (e1 : (¬(I 156 3 = 0)) → (I, S) = h1 := by intros; first | rfl | (exfalso; omega) | contradiction | (exfalso; simp_all; done)) : L_X12_readsJoin_272 d 156 x1 x2 x3 x4 x5 x6 x7 x8 I S h1 :=
  
  b_X12_readsJoin_272  (c_X12_isGood hl0) (
  b_X12_readsJoin_276  (fun c1' => have c1 : I 156 3 = 0 := b2t c1'; (k1 c1)) (fun c2' => have c2 : ¬(I 156 3 = 0) := b2f c2'; ev_retV (e1 c2) (b_X12_readsJoin_279 )))
theorem w_X12_readsJoin_280 {d : Nat} {I : Nat → Nat → Int} {S : PS} {x1 x2 x3 x4 x5 x6 x7 x8 : Int} {J1 : Nat → Nat → Int} {h1 : PM} (hl0 : LyX12 S)
    (g1 : Ca (d + 3) mX12_goes [vR (some (22, 0, 156))] ((up2 (up2 (up2 I 162 ((((20 * x1) + 11) + (2 * x4)).toNat) x5) 162 (((((20 * x1) + 11) + (2 * x4)) + 1).toNat) x6) 162 (((20 * x1) + 10).toNat) (((up2 (up2 I 162 ((((20 * x1) + 11) + (2 * x4)).toNat) x5) 162 (((((20 * x1) + 11) + (2 * x4)) + 1).toNat) x6) 162 ((20 * x1) + 10).toNat) + 1)), S) (.inl none) (J1, S))
    (e1 : (J1, S) = h1 := by intros; first | rfl | (exfalso; omega) | contradiction | (exfalso; simp_all; done))
    (v1 : -2147483648 ≤ 20 * x1 ∧ 20 * x1 ≤ 2147483647 := by intros; first | assumption | omega | (split <;> omega))
    (v2 : -2147483648 ≤ (20 * x1) + 11 ∧ (20 * x1) + 11 ≤ 2147483647 := by intros; first | assumption | omega | (split <;> omega))
    (v3 : -2147483648 ≤ 2 * x4 ∧ 2 * x4 ≤ 2147483647 := by intros; first | assumption | omega | (split <;> omega))
    (v4 : -2147483648 ≤ ((20 * x1) + 11) + (2 * x4) ∧ ((20 * x1) + 11) + (2 * x4) ≤ 2147483647 := by intros; first | assumption | omega | (split <;> omega))
    (v5 : 0 ≤ ((20 * x1) + 11) + (2 * x4) ∧ ((20 * x1) + 11) + (2 * x4) < (80 : Nat) := by intros; first | assumption | omega | (split <;> omega))
    (v6 : -2147483648 ≤ (((20 * x1) + 11) + (2 * x4)) + 1 ∧ (((20 * x1) + 11) + (2 * x4)) + 1 ≤ 2147483647 := by intros; first | assumption | omega | (split <;> omega))
    (v7 : 0 ≤ (((20 * x1) + 11) + (2 * x4)) + 1 ∧ (((20 * x1) + 11) + (2 * x4)) + 1 < (80 : Nat) := by intros; first | assumption | omega | (split <;> omega))
    (v8 : -2147483648 ≤ (20 * x1) + 10 ∧ (20 * x1) + 10 ≤ 2147483647 := by intros; first | assumption | omega | (split <;> omega))
    (v9 : 0 ≤ (20 * x1) + 10 ∧ (20 * x1) + 10 < (80 : Nat) := by intros; first | assumption | omega | (split <;> omega))
    (v10 : -2147483648 ≤ ((up2 (up2 I 162 ((((20 * x1) + 11) + (2 * x4)).toNat) x5) 162 (((((20 * x1) + 11) + (2 * x4)) + 1).toNat) x6) 162 ((20 * x1) + 10).toNat) + 1 ∧ ((up2 (up2 I 162 ((((20 * x1) + 11) + (2 * x4)).toNat) x5) 162 (((((20 * x1) + 11) + (2 * x4)) + 1).toNat) x6) 162 ((20 * x1) + 10).toNat) + 1 ≤ 2147483647 := by intros; first | assumption | omega | (split <;> omega)) : L_X12_readsJoin_280 d 156 x1 x2 x3 x4 x5 x6 x7 x8 I S h1 :=
  
  b_X12_readsJoin_280 (ly_X12_22 hl0) v1 v2 v3 v4 v5 v1 v2 v3 v4 v6 v7 v1 v8 v9 v10 v9 g1 (ev_retV e1 (b_X12_readsJoin_340 ))
end
