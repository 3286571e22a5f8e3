noncomputable section
abbrev L_X5_readSpot_17 (d : Nat) (a0 : Nat) (a1 : Nat) (x2 : Int) (I : Nat → Nat → Int) (S : PS) (v : Int) (h1 : PM) : Prop := Ev (d + 4) mX5_readSpot (17, [some (vR (some (20, 0, a0))), some (vR (some (11, 0, a1))), some (vI x2), none], [], (I, S)) (.inl (some (vI v)), h1)
abbrev L_X5_readSpot_53 (d : Nat) (a0 : Nat) (a1 : Nat) (x2 : Int) (I : Nat → Nat → Int) (S : PS) (v : Int) (h1 : PM) : Prop := Ev (d + 4) mX5_readSpot (53, [some (vR (some (20, 0, a0))), some (vR (some (11, 0, a1))), some (vI x2), none], [], (I, S)) (.inl (some (vI v)), h1)
theorem w_X5_readSpot_0 {d : Nat} {I : Nat → Nat → Int} {S : PS} {a1 : Nat} {J1 : Nat → Nat → Int} {v : Int} {h1 : PM} (hl0 : LyX10 S) (hl1 : LyX0 S a1)
    (g1 : (I a1 6 < 12) → Ca (d + 3) mX0_beginSpot [vR (some (11, 0, a1))] (I, S) (.inl none) (J1, S))
    (k1 : (I a1 6 < 12) → L_X5_readSpot_17 d 32 a1 0 J1 S v h1)
    (r1 : (12 ≤ I a1 6) → 2 = v)
    (e1 : (12 ≤ I a1 6) → (I, S) = h1 := by intros; first | rfl | (exfalso; omega) | contradiction | (exfalso; simp_all; done)) : Ca (d + 4) mX5_readSpot [vR (some (20, 0, 32)), vR (some (11, 0, a1))] (I, S) (.inl (some (vI v))) h1 :=
  Ca.of rfl rfl (
  b_X5_readSpot_0  (fun (c1 : I a1 6 < 12) => 
    b_X5_readSpot_11  (g1 c1) (
    b_X5_readSpot_15  ((k1 c1)))) (fun (c2 : 12 ≤ I a1 6) => ev_ret2 (r1 c2) (e1 c2) (b_X5_readSpot_9 )))
theorem w_X5_readSpot_17 {d : Nat} {I : Nat → Nat → Int} {S : PS} {a1 : Nat} {x2 z2 : Int} {J1 J2 : Nat → Nat → Int} {v : Int} {h1 : PM} (hl0 : LyX10 S) (hl1 : LyX0 S a1)
    (g1 : (x2 ≤ 9) → Ca (d + 3) mX10_advance [vR (some (20, 0, 32))] (I, S) (.inl none) (J1, S))
    (k1 : (x2 ≤ 9) → (J1 32 3 ≠ 3) → L_X5_readSpot_53 d 32 a1 x2 J1 S v h1)
    (k2 : (x2 ≤ 9) → (J1 32 3 = 3) → (x2 ≤ 0) → L_X5_readSpot_53 d 32 a1 x2 J1 S v h1)
    (g2 : (x2 ≤ 9) → (J1 32 3 = 3) → (0 < x2) → (3 ≤ x2) → Ca (d + 3) mX0_keepSpot [vR (some (11, 0, a1))] (J1, S) (.inl (some (vI z2))) (J2, S))
    (r1 : (9 < x2) → 2 = v)
    (e1 : (9 < x2) → (I, S) = h1 := by intros; first | rfl | (exfalso; omega) | contradiction | (exfalso; simp_all; done))
    (r2 : (x2 ≤ 9) → (J1 32 3 = 3) → (0 < x2) → (3 ≤ x2) → z2 = v)
    (e2 : (x2 ≤ 9) → (J1 32 3 = 3) → (0 < x2) → (3 ≤ x2) → (J2, S) = h1 := by intros; first | rfl | (exfalso; omega) | contradiction | (exfalso; simp_all; done))
    (r3 : (x2 ≤ 9) → (J1 32 3 = 3) → (0 < x2) → (x2 < 3) → 2 = v)
    (e3 : (x2 ≤ 9) → (J1 32 3 = 3) → (0 < x2) → (x2 < 3) → (J1, S) = h1 := by intros; first | rfl | (exfalso; omega) | contradiction | (exfalso; simp_all; done)) : L_X5_readSpot_17 d 32 a1 x2 I S v h1 :=
  
  b_X5_readSpot_17  (fun (c1 : 9 < x2) => ev_ret2 (r1 c1) (e1 c1) (b_X5_readSpot_94 )) (fun (c2 : x2 ≤ 9) => 
    b_X5_readSpot_23  (g1 c2) (
    b_X5_readSpot_27  (fun (c3 : J1 32 3 ≠ 3) => (k1 c2 c3)) (fun (c4 : J1 32 3 = 3) => 
      b_X5_readSpot_35  (fun (c5 : x2 ≤ 0) => (k2 c2 c4 c5)) (fun (c6 : 0 < x2) => 
        b_X5_readSpot_39  (fun (c7 : 3 ≤ x2) => 
          b_X5_readSpot_48  (g2 c2 c4 c6 c7) (ev_ret2 (r2 c2 c4 c6 c7) (e2 c2 c4 c6 c7) (b_X5_readSpot_52 ))) (fun (c8 : x2 < 3) => 
          b_X5_readSpot_44  (ev_ret2 (r3 c2 c4 c6 c8) (e3 c2 c4 c6 c8) (b_X5_readSpot_52 )))))))
theorem w_X5_readSpot_53 {d : Nat} {I : Nat → Nat → Int} {S : PS} {a1 : Nat} {x2 z1 : Int} {J1 J2 : Nat → Nat → Int} {z2 : Bool} {v : Int} {h1 : PM} (hl0 : LyX10 S) (hl1 : LyX0 S a1)
    (g1 : Ca (d + 3) mX5_checkNumber [vR (some (20, 0, 32)), vI 0, vI 11] (I, S) (.inl (some (vI z1))) (J1, S))
    (g2 : (z1 = 0) → (x2 < 9) → Ca (d + 3) mX0_addNeighbour [vR (some (11, 0, a1)), vI (J1 32 5)] (J1, S) (.inl (some (vI (if z2 = true then (1 : Int) else 0)))) (J2, S))
    (k1 : (z1 = 0) → (x2 < 9) → (z2 = true) → L_X5_readSpot_17 d 32 a1 (x2 + 1) J2 S v h1)
    (r1 : (z1 = 0) → (x2 < 9) → (¬(z2 = true)) → 4 = v)
    (e1 : (z1 = 0) → (x2 < 9) → (¬(z2 = true)) → (J2, S) = h1 := by intros; first | rfl | (exfalso; omega) | contradiction | (exfalso; simp_all; done))
    (r2 : (z1 = 0) → (9 ≤ x2) → 2 = v)
    (e2 : (z1 = 0) → (9 ≤ x2) → (J1, S) = h1 := by intros; first | rfl | (exfalso; omega) | contradiction | (exfalso; simp_all; done))
    (r3 : (z1 ≠ 0) → z1 = v)
    (e3 : (z1 ≠ 0) → (J1, S) = h1 := by intros; first | rfl | (exfalso; omega) | contradiction | (exfalso; simp_all; done))
    (v1 : (z1 = 0) → (x2 < 9) → (z2 = true) → -2147483648 ≤ x2 + 1 ∧ x2 + 1 ≤ 2147483647 := by intros; first | assumption | omega | (split <;> omega)) : L_X5_readSpot_53 d 32 a1 x2 I S v h1 :=
  
  b_X5_readSpot_53  g1 (
  b_X5_readSpot_60  (fun (c1 : z1 = 0) => 
    b_X5_readSpot_67  (fun (c3 : x2 < 9) => 
      b_X5_readSpot_75  (g2 c1 c3) (
      b_X5_readSpot_83  (fun c5' => have c5 : z2 = true := b2t c5'; 
        b_X5_readSpot_88 (v1 c1 c3 c5) ((k1 c1 c3 c5))) (fun c6' => have c6 : ¬(z2 = true) := b2f c6'; ev_ret2 (r1 c1 c3 c6) (e1 c1 c3 c6) (b_X5_readSpot_86 )))) (fun (c4 : 9 ≤ x2) => ev_ret2 (r2 c1 c4) (e2 c1 c4) (b_X5_readSpot_73 ))) (fun (c2 : z1 ≠ 0) => ev_ret2 (r3 c2) (e3 c2) (b_X5_readSpot_65 )))
abbrev L_X12_readsSpot_23 (d : Nat) (a0 : Nat) (x1 : Int) (x2 : Int) (I : Nat → Nat → Int) (S : PS) (h1 : PM) : Prop := Ev (d + 4) mX12_readsSpot (23, [some (vR (some (22, 0, a0))), some (vI x1), some (vI x2), none, none], [], (I, S)) (.inl none, h1)
abbrev L_X12_readsSpot_49 (d : Nat) (a0 : Nat) (x1 : Int) (x2 : Int) (I : Nat → Nat → Int) (S : PS) (h1 : PM) : Prop := Ev (d + 4) mX12_readsSpot (49, [some (vR (some (22, 0, a0))), some (vI x1), some (vI x2), none, none], [], (I, S)) (.inl none, h1)
abbrev L_X12_readsSpot_77 (d : Nat) (a0 : Nat) (x1 : Int) (x2 : Int) (x3 : Int) (I : Nat → Nat → Int) (S : PS) (h1 : PM) : Prop := Ev (d + 4) mX12_readsSpot (77, [some (vR (some (22, 0, a0))), some (vI x1), some (vI x2), some (vI x3), none], [], (I, S)) (.inl none, h1)
abbrev L_X12_readsSpot_80 (d : Nat) (a0 : Nat) (x1 : Int) (x2 : Int) (x3 : Int) (x4 : Int) (I : Nat → Nat → Int) (S : PS) (h1 : PM) : Prop := Ev (d + 4) mX12_readsSpot (80, [some (vR (some (22, 0, a0))), some (vI x1), some (vI x2), some (vI x3), some (vI x4)], [], (I, S)) (.inl none, h1)
abbrev L_X12_readsSpot_119 (d : Nat) (a0 : Nat) (x1 : Int) (x2 : Int) (x3 : Int) (x4 : Int) (I : Nat → Nat → Int) (S : PS) (h1 : PM) : Prop := Ev (d + 4) mX12_readsSpot (119, [some (vR (some (22, 0, a0))), some (vI x1), some (vI x2), some (vI x3), some (vI x4)], [], (I, S)) (.inl none, h1)
abbrev L_X12_readsSpot_127 (d : Nat) (a0 : Nat) (x1 : Int) (x2 : Int) (x3 : Int) (x4 : Int) (I : Nat → Nat → Int) (S : PS) (h1 : PM) : Prop := Ev (d + 4) mX12_readsSpot (127, [some (vR (some (22, 0, a0))), some (vI x1), some (vI x2), some (vI x3), some (vI x4)], [], (I, S)) (.inl none, h1)
abbrev L_X12_readsSpot_148 (d : Nat) (a0 : Nat) (x1 : Int) (x2 : Int) (I : Nat → Nat → Int) (S : PS) (h1 : PM) : Prop := Ev (d + 4) mX12_readsSpot (148, [some (vR (some (22, 0, a0))), some (vI x1), some (vI x2), none, none], [], (I, S)) (.inl none, h1)
abbrev L_X12_readsSpot_173 (d : Nat) (a0 : Nat) (x1 : Int) (x2 : Int) (I : Nat → Nat → Int) (S : PS) (h1 : PM) : Prop := Ev (d + 4) mX12_readsSpot (173, [some (vR (some (22, 0, a0))), some (vI x1), some (vI x2), none, none], [], (I, S)) (.inl none, h1)
theorem w_X12_readsSpot_0 {d : Nat} {I : Nat → Nat → Int} {S : PS} {J1 : Nat → Nat → Int} {h1 : PM} (hl0 : LyX12 S)
    (k1 : (I 156 8 = 2) → L_X12_readsSpot_23 d 156 (10 * (I 156 18)) 0 I S h1)
    (g1 : (I 156 8 ≠ 2) → Ca (d + 3) mX12_wrong [vR (some (22, 0, 156)), vI 1] (I, S) (.inl none) (J1, S))
    (k2 : (I 156 8 ≠ 2) → L_X12_readsSpot_23 d 156 (10 * (I 156 18)) 0 J1 S h1)
    (v1 : -2147483648 ≤ 10 * (I 156 18) ∧ 10 * (I 156 18) ≤ 2147483647 := by intros; first | assumption | omega | (split <;> omega)) : Ca (d + 4) mX12_readsSpot [vR (some (22, 0, 156))] (I, S) (.inl none) h1 :=
  Ca.of rfl rfl (
  b_X12_readsSpot_0 v1 (fun (c1 : I 156 8 = 2) => (k1 c1)) (fun (c2 : I 156 8 ≠ 2) => 
    b_X12_readsSpot_18  (g1 c2) ((k2 c2))))
theorem w_X12_readsSpot_23 {d : Nat} {I : Nat → Nat → Int} {S : PS} {x1 x2 : Int} {J1 : Nat → Nat → Int} {h1 : PM} (hl0 : LyX12 S)
    (k1 : (¬(I 156 3 = 0)) → L_X12_readsSpot_148 d 156 x1 x2 I S h1)
    (k2 : (I 156 3 = 0) → (I 156 8 ≠ 2) → L_X12_readsSpot_148 d 156 x1 x2 I S h1)
    (k3 : (I 156 3 = 0) → (I 156 8 = 2) → (x2 ≠ 9) → L_X12_readsSpot_49 d 156 x1 x2 I S h1)
    (g1 : (I 156 3 = 0) → (I 156 8 = 2) → (x2 = 9) → Ca (d + 3) mX12_wrong [vR (some (22, 0, 156)), vI 2] (I, S) (.inl none) (J1, S))
    (k4 : (I 156 3 = 0) → (I 156 8 = 2) → (x2 = 9) → L_X12_readsSpot_49 d 156 x1 x2 J1 S h1) : L_X12_readsSpot_23 d 156 x1 x2 I S h1 :=
  
  b_X12_readsSpot_23  (c_X12_isGood hl0) (
  b_X12_readsSpot_27  (fun c1' => have c1 : ¬(I 156 3 = 0) := b2f c1'; (k1 c1)) (fun c2' => have c2 : I 156 3 = 0 := b2t c2'; 
    b_X12_readsSpot_30  (fun (c3 : I 156 8 ≠ 2) => (k2 c2 c3)) (fun (c4 : I 156 8 = 2) => 
      b_X12_readsSpot_38  (fun (c5 : x2 ≠ 9) => (k3 c2 c4 c5)) (fun (c6 : x2 = 9) => 
        b_X12_readsSpot_44  (g1 c2 c4 c6) ((k4 c2 c4 c6))))))
theorem w_X12_readsSpot_49 {d : Nat} {I : Nat → Nat → Int} {S : PS} {x1 x2 z1 : Int} {J1 J2 : Nat → Nat → Int} {h1 : PM} (hl0 : LyX12 S)
    (g1 : Ca (d + 3) mX12_numberHere [vR (some (22, 0, 156)), vI 0, vI 11] (I, S) (.inl (some (vI z1))) (J1, S))
    (k1 : (¬(J1 156 3 = 0)) → L_X12_readsSpot_77 d 156 x1 x2 z1 J1 S h1)
    (k2 : (J1 156 3 = 0) → (z1 ≠ J1 156 18) → L_X12_readsSpot_77 d 156 x1 x2 z1 J1 S h1)
    (g2 : (J1 156 3 = 0) → (z1 = J1 156 18) → Ca (d + 3) mX12_wrong [vR (some (22, 0, 156)), vI 4] (J1, S) (.inl none) (J2, S))
    (k3 : (J1 156 3 = 0) → (z1 = J1 156 18) → L_X12_readsSpot_77 d 156 x1 x2 z1 J2 S h1) : L_X12_readsSpot_49 d 156 x1 x2 I S h1 :=
  
  b_X12_readsSpot_49  g1 (
  b_X12_readsSpot_56  (c_X12_isGood hl0) (
  b_X12_readsSpot_61  (fun c1' => have c1 : ¬(J1 156 3 = 0) := b2f c1'; (k1 c1)) (fun c2' => have c2 : J1 156 3 = 0 := b2t c2'; 
    b_X12_readsSpot_64  (fun (c3 : z1 ≠ J1 156 18) => (k2 c2 c3)) (fun (c4 : z1 = J1 156 18) => 
      b_X12_readsSpot_72  (g2 c2 c4) ((k3 c2 c4))))))
theorem w_X12_readsSpot_77 {d : Nat} {I : Nat → Nat → Int} {S : PS} {x1 x2 x3 : Int} {h1 : PM} (hl0 : LyX12 S)
    (k1 : L_X12_readsSpot_80 d 156 x1 x2 x3 0 I S h1) : L_X12_readsSpot_77 d 156 x1 x2 x3 I S h1 :=
  
  b_X12_readsSpot_77  (k1)
theorem w_X12_readsSpot_80 {d : Nat} {I : Nat → Nat → Int} {S : PS} {x1 x2 x3 x4 : Int} {J1 : Nat → Nat → Int} {h1 : PM} (hl0 : LyX12 S)
    (k1 : (x2 ≤ x4) → L_X12_readsSpot_119 d 156 x1 x2 x3 x4 I S h1)
    (k2 : (x4 < x2) → (¬(I 156 3 = 0)) → L_X12_readsSpot_119 d 156 x1 x2 x3 x4 I S h1)
    (k3 : (x4 < x2) → (I 156 3 = 0) → (I 164 (x1 + 1 + x4).toNat ≠ x3) → L_X12_readsSpot_80 d 156 x1 x2 x3 (x4 + 1) I S h1)
    (g1 : (x4 < x2) → (I 156 3 = 0) → (I 164 (x1 + 1 + x4).toNat = x3) → Ca (d + 3) mX12_wrong [vR (some (22, 0, 156)), vI 4] (I, S) (.inl none) (J1, S))
    (k4 : (x4 < x2) → (I 156 3 = 0) → (I 164 (x1 + 1 + x4).toNat = x3) → L_X12_readsSpot_80 d 156 x1 x2 x3 (x4 + 1) J1 S h1)
    (v1 : (x4 < x2) → (I 156 3 = 0) → -2147483648 ≤ x1 + 1 ∧ x1 + 1 ≤ 2147483647 := by intros; first | assumption | omega | (split <;> omega))
    (v2 : (x4 < x2) → (I 156 3 = 0) → -2147483648 ≤ x1 + 1 + x4 ∧ x1 + 1 + x4 ≤ 2147483647 := by intros; first | assumption | omega | (split <;> omega))
    (v3 : (x4 < x2) → (I 156 3 = 0) → 0 ≤ x1 + 1 + x4 ∧ x1 + 1 + x4 < (120 : Nat) := by intros; first | assumption | omega | (split <;> omega))
    (v4 : (x4 < x2) → (I 156 3 = 0) → (I 164 (x1 + 1 + x4).toNat ≠ x3) → -2147483648 ≤ x4 + 1 ∧ x4 + 1 ≤ 2147483647 := by intros; first | assumption | omega | (split <;> omega))
    (v5 : (x4 < x2) → (I 156 3 = 0) → (I 164 (x1 + 1 + x4).toNat = x3) → -2147483648 ≤ x4 + 1 ∧ x4 + 1 ≤ 2147483647 := by intros; first | assumption | omega | (split <;> omega)) : L_X12_readsSpot_80 d 156 x1 x2 x3 x4 I S h1 :=
  
  b_X12_readsSpot_80  (fun (c1 : x2 ≤ x4) => (k1 c1)) (fun (c2 : x4 < x2) => 
    b_X12_readsSpot_86  (c_X12_isGood hl0) (
    b_X12_readsSpot_90  (fun c3' => have c3 : ¬(I 156 3 = 0) := b2f c3'; (k2 c2 c3)) (fun c4' => have c4 : I 156 3 = 0 := b2t c4'; 
      b_X12_readsSpot_93 (ly_X12_24 hl0) (v1 c2 c4) (v2 c2 c4) (v3 c2 c4) (fun (c5 : I 164 (x1 + 1 + x4).toNat ≠ x3) => 
        b_X12_readsSpot_113 (v4 c2 c4 c5) ((k3 c2 c4 c5))) (fun (c6 : I 164 (x1 + 1 + x4).toNat = x3) => 
        b_X12_readsSpot_108  (g1 c2 c4 c6) (
        b_X12_readsSpot_113 (v5 c2 c4 c6) ((k4 c2 c4 c6)))))))
theorem w_X12_readsSpot_119 {d : Nat} {I : Nat → Nat → Int} {S : PS} {x1 x2 x3 x4 : Int} {h1 : PM} (hl0 : LyX12 S)
    (k1 : (I 156 3 = 0) → L_X12_readsSpot_127 d 156 x1 x2 x3 x4 I S h1)
    (e1 : (¬(I 156 3 = 0)) → (I, S) = h1 := by intros; first | rfl | (exfalso; omega) | contradiction | (exfalso; simp_all; done)) : L_X12_readsSpot_119 d 156 x1 x2 x3 x4 I S h1 :=
  
  b_X12_readsSpot_119  (c_X12_isGood hl0) (
  b_X12_readsSpot_123  (fun c1' => have c1 : I 156 3 = 0 := b2t c1'; (k1 c1)) (fun c2' => have c2 : ¬(I 156 3 = 0) := b2f c2'; ev_retV (e1 c2) (b_X12_readsSpot_126 )))
theorem w_X12_readsSpot_127 {d : Nat} {I : Nat → Nat → Int} {S : PS} {x1 x2 x3 x4 : Int} {J1 : Nat → Nat → Int} {h1 : PM} (hl0 : LyX12 S)
    (g1 : Ca (d + 3) mX12_goes [vR (some (22, 0, 156))] ((up2 I 164 ((x1 + 1 + x2).toNat) x3), S) (.inl none) (J1, S))
    (k1 : L_X12_readsSpot_23 d 156 x1 (x2 + 1) J1 S h1)
    (v1 : -2147483648 ≤ x1 + 1 ∧ x1 + 1 ≤ 2147483647 := by intros; first | assumption | omega | (split <;> omega))
    (v2 : -2147483648 ≤ x1 + 1 + x2 ∧ x1 + 1 + x2 ≤ 2147483647 := by intros; first | assumption | omega | (split <;> omega))
    (v3 : 0 ≤ x1 + 1 + x2 ∧ x1 + 1 + x2 < (120 : Nat) := by intros; first | assumption | omega | (split <;> omega))
    (v4 : -2147483648 ≤ x2 + 1 ∧ x2 + 1 ≤ 2147483647 := by intros; first | assumption | omega | (split <;> omega)) : L_X12_readsSpot_127 d 156 x1 x2 x3 x4 I S h1 :=
  
  b_X12_readsSpot_127 (ly_X12_24 hl0) v1 v2 v3 v4 g1 (
  b_X12_readsSpot_145  (k1))
theorem w_X12_readsSpot_148 {d : Nat} {I : Nat → Nat → Int} {S : PS} {x1 x2 : Int} {J1 : Nat → Nat → Int} {h1 : PM} (hl0 : LyX12 S)
    (k1 : (¬(I 156 3 = 0)) → L_X12_readsSpot_173 d 156 x1 x2 I S h1)
    (k2 : (I 156 3 = 0) → (I 156 8 ≠ 3) → L_X12_readsSpot_173 d 156 x1 x2 I S h1)
    (k3 : (I 156 3 = 0) → (I 156 8 = 3) → (3 ≤ x2) → L_X12_readsSpot_173 d 156 x1 x2 I S h1)
    (g1 : (I 156 3 = 0) → (I 156 8 = 3) → (x2 < 3) → Ca (d + 3) mX12_wrong [vR (some (22, 0, 156)), vI 2] (I, S) (.inl none) (J1, S))
    (k4 : (I 156 3 = 0) → (I 156 8 = 3) → (x2 < 3) → L_X12_readsSpot_173 d 156 x1 x2 J1 S h1) : L_X12_readsSpot_148 d 156 x1 x2 I S h1 :=
  
  b_X12_readsSpot_148  (c_X12_isGood hl0) (
  b_X12_readsSpot_152  (fun c1' => have c1 : ¬(I 156 3 = 0) := b2f c1'; (k1 c1)) (fun c2' => have c2 : I 156 3 = 0 := b2t c2'; 
    b_X12_readsSpot_155  (fun (c3 : I 156 8 ≠ 3) => (k2 c2 c3)) (fun (c4 : I 156 8 = 3) => 
      b_X12_readsSpot_163  (fun (c5 : 3 ≤ x2) => (k3 c2 c4 c5)) (fun (c6 : x2 < 3) => 
        b_X12_readsSpot_168  (g1 c2 c4 c6) ((k4 c2 c4 c6))))))
theorem w_X12_readsSpot_173 {d : Nat} {I : Nat → Nat → Int} {S : PS} {x1 x2 : Int} {h1 : PM} (hl0 : LyX12 S)
    (e1 : (¬(I 156 3 = 0)) → ((up2 I 164 (x1.toNat) x2), S) = h1 := by intros; first | rfl | (exfalso; omega) | contradiction | (exfalso; simp_all; done))
    (e2 : (I 156 3 = 0) → ((up2 (up2 I 164 (x1.toNat) x2) 156 18 (I 156 18 + 1)), S) = h1 := by intros; first | rfl | (exfalso; omega) | contradiction | (exfalso; simp_all; done))
    (v1 : 0 ≤ x1 ∧ x1 < (120 : Nat) := by intros; first | assumption | omega | (split <;> omega))
    (v2 : (I 156 3 = 0) → -2147483648 ≤ I 156 18 + 1 ∧ I 156 18 + 1 ≤ 2147483647 := by intros; first | assumption | omega | (split <;> omega)) : L_X12_readsSpot_173 d 156 x1 x2 I S h1 :=
  
  b_X12_readsSpot_173 (ly_X12_24 hl0) v1 (c_X12_isGood hl0) (
  b_X12_readsSpot_184  (fun c1' => have c1 : ¬(I 156 3 = 0) := b2f c1'; ev_retV (e1 c1) (b_X12_readsSpot_197 )) (fun c2' => have c2 : I 156 3 = 0 := b2t c2'; 
    b_X12_readsSpot_187 (v2 c2) (ev_retV (e2 c2) (b_X12_readsSpot_197 ))))
end
