noncomputable section
abbrev L_X7_behind_9 (d : Nat) (a0 : Nat) (x1 : Int) (n2 : Nat) (a2 : Nat) (n3 : Nat) (a3 : Nat) (x4 : Int) (x5 : Int) (I : Nat → Nat → Int) (S : PS) (v : Int) (h1 : PM) : Prop := Ev (d + 3) mX7_behind (9, [some (vR (some (17, 0, a0))), some (vI x1), some (vR (some (0, n2, a2))), some (vR (some (0, n3, a3))), some (vI x4), some (vI x5)], [], (I, S)) (.inl (some (vI v)), h1)
theorem w_X7_behind_0 {d : Nat} {I : Nat → Nat → Int} {S : PS} {a0 n2 a2 n3 a3 : Nat} {x1 : Int} {v : Int} {h1 : PM} (hl0 : LyX7 S a0)
    (k1 : L_X7_behind_9 d a0 x1 n2 a2 n3 a3 (10 * (6 - x1)) 0 I S v h1)
    (v1 : -2147483648 ≤ 6 - x1 ∧ 6 - x1 ≤ 2147483647 := by intros; first | assumption | omega | (split <;> omega))
    (v2 : -2147483648 ≤ 10 * (6 - x1) ∧ 10 * (6 - x1) ≤ 2147483647 := by intros; first | assumption | omega | (split <;> omega)) : Ca (d + 3) mX7_behind [vR (some (17, 0, a0)), vI x1, vR (some (0, n2, a2)), vR (some (0, n3, a3))] (I, S) (.inl (some (vI v))) h1 :=
  Ca.of rfl rfl (
  b_X7_behind_0  (c_X7_ahead v1 v2) (
  b_X7_behind_4  (k1)))
theorem w_X7_behind_9 {d : Nat} {I : Nat → Nat → Int} {S : PS} {a0 n2 a2 n3 a3 : Nat} {x1 x4 x5 : Int} {v : Int} {h1 : PM} (hl0 : LyX7 S a0)
    (k1 : (x5 < I a0 0) → L_X7_behind_9 d a0 x1 n2 a2 n3 a3 (x4 + ((I a3 x5.toNat) * (ntC I a0 a2 x5 x1 x1.toNat))) (x5 + 1) I S v h1)
    (r1 : (I a0 0 ≤ x5) → x4 = v)
    (e1 : (I a0 0 ≤ x5) → (I, S) = h1 := by intros; rfl)
    (v1 : (x5 < I a0 0) → 0 ≤ x5 ∧ x5 < (n3 : Nat) := by intros; first | assumption | omega | (split <;> omega))
    (v2 : (x5 < I a0 0) → 0 ≤ x5 ∧ x5 < 6 := by intros; first | assumption | omega | (split <;> omega))
    (v3 : (x5 < I a0 0) → 0 ≤ x1 ∧ x1 ≤ n2 := by intros; first | assumption | omega | (split <;> omega))
    (v4 : (x5 < I a0 0) → n2 ≤ 9 := by intros; first | assumption | omega | (split <;> omega))
    (v5 : (x5 < I a0 0) → -2147483648 ≤ (I a3 x5.toNat) * (ntC I a0 a2 x5 x1 x1.toNat) ∧ (I a3 x5.toNat) * (ntC I a0 a2 x5 x1 x1.toNat) ≤ 2147483647 := by intros; first | assumption | omega | (split <;> omega))
    (v6 : (x5 < I a0 0) → -2147483648 ≤ x4 + ((I a3 x5.toNat) * (ntC I a0 a2 x5 x1 x1.toNat)) ∧ x4 + ((I a3 x5.toNat) * (ntC I a0 a2 x5 x1 x1.toNat)) ≤ 2147483647 := by intros; first | assumption | omega | (split <;> omega))
    (v7 : (x5 < I a0 0) → -2147483648 ≤ x5 + 1 ∧ x5 + 1 ≤ 2147483647 := by intros; first | assumption | omega | (split <;> omega)) : L_X7_behind_9 d a0 x1 n2 a2 n3 a3 x4 x5 I S v h1 :=
  
  b_X7_behind_9  (fun (c1 : I a0 0 ≤ x5) => ev_ret2 (r1 c1) (e1 c1) (b_X7_behind_42 )) (fun (c2 : x5 < I a0 0) => 
    b_X7_behind_18 (v1 c2) (c_X7_net hl0 (v2 c2) (v3 c2) (v4 c2)) (
    b_X7_behind_32 (v5 c2) (v6 c2) (v7 c2) ((k1 c2))))
abbrev L_X0_heldPieces_5 (d : Nat) (a0 : Nat) (x1 : Int) (n2 : Nat) (a2 : Nat) (x3 : Int) (x4 : Int) (I : Nat → Nat → Int) (S : PS) (v : Int) (h1 : PM) : Prop := Ev (d + 2) mX0_heldPieces (5, [some (vR (some (11, 0, a0))), some (vI x1), some (vR (some (0, n2, a2))), some (vI x3), some (vI x4)], [], (I, S)) (.inl (some (vI v)), h1)
theorem w_X0_heldPieces_0 {d : Nat} {I : Nat → Nat → Int} {S : PS} {a0 n2 a2 : Nat} {x1 : Int} {v : Int} {h1 : PM} (hl0 : LyX0 S a0)
    (k1 : L_X0_heldPieces_5 d a0 x1 n2 a2 0 0 I S v h1) : Ca (d + 2) mX0_heldPieces [vR (some (11, 0, a0)), vI x1, vR (some (0, n2, a2))] (I, S) (.inl (some (vI v))) h1 :=
  Ca.of rfl rfl (
  b_X0_heldPieces_0  (k1))
theorem w_X0_heldPieces_5 {d : Nat} {I : Nat → Nat → Int} {S : PS} {a0 n2 a2 : Nat} {x1 x3 x4 : Int} {v : Int} {h1 : PM} (hl0 : LyX0 S a0)
    (k1 : (x4 < I a0 1) → L_X0_heldPieces_5 d a0 x1 n2 a2 (if ¬(heC I (a0 + 7 + 9 * x4.toNat) a2 x1 = true) then (x3 : Int) else p_or x3 (p_shl 1 x4)) (x4 + 1) I S v h1)
    (r1 : (I a0 1 ≤ x4) → x3 = v)
    (e1 : (I a0 1 ≤ x4) → (I, S) = h1 := by intros; rfl)
    (v1 : (x4 < I a0 1) → 0 ≤ x4 ∧ x4 < (4 : Nat) := by intros; first | assumption | omega | (split <;> omega))
    (v2 : (x4 < I a0 1) → 1 ≤ x1 ∧ x1 ≤ n2 := by intros; first | assumption | omega | (split <;> omega))
    (v3 : (x4 < I a0 1) → n2 ≤ 9 := by intros; first | assumption | omega | (split <;> omega))
    (v4 : (x4 < I a0 1) → 0 ≤ I (a0 + 7 + 9 * x4.toNat) 1 ∧ I (a0 + 7 + 9 * x4.toNat) 1 ≤ 7 := by intros; first | assumption | omega | (split <;> omega))
    (v5 : (x4 < I a0 1) → -2147483648 ≤ x4 + 1 ∧ x4 + 1 ≤ 2147483647 := by intros; first | assumption | omega | (split <;> omega)) : L_X0_heldPieces_5 d a0 x1 n2 a2 x3 x4 I S v h1 :=
  
  b_X0_heldPieces_5  (fun (c1 : I a0 1 ≤ x4) => ev_ret2 (r1 c1) (e1 c1) (b_X0_heldPieces_42 )) (fun (c2 : x4 < I a0 1) => 
    b_X0_heldPieces_14 (ly_X0_0 hl0) (v1 c2) (ly_X0_a hl0 (idxN (v1 c2))) (c_X3_isHeldBy (ly_X0_q hl0 (idxN (v1 c2))) (v2 c2) (v3 c2) (v4 c2)) (
    have K4 : ∀ u3 : Int, u3 = (if ¬(heC I (a0 + 7 + 9 * x4.toNat) a2 x1 = true) then (x3 : Int) else p_or x3 (p_shl 1 x4)) → Ev (d + 2) mX0_heldPieces (36, [some (vR (some (11, 0, a0))), some (vI x1), some (vR (some (0, n2, a2))), some (vI u3), some (vI x4)], [], (I, S)) (.inl (some (vI v)), h1) := fun u3 e_u3 => by subst e_u3; exact (
      b_X0_heldPieces_36 (v5 c2) ((k1 c2)))
    
    b_X0_heldPieces_26  (fun c3' => have c3 : ¬(heC I (a0 + 7 + 9 * x4.toNat) a2 x1 = true) := b2f c3'; K4 x3 ((if_pos c3).symm)) (fun c4' => have c4 : heC I (a0 + 7 + 9 * x4.toNat) a2 x1 = true := b2t c4'; 
      b_X0_heldPieces_29  (K4 (p_or x3 (p_shl 1 x4)) ((if_neg (fun q => q c4)).symm)))))
end
