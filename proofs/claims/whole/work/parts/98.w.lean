noncomputable section
abbrev L_X1_isLeast_2 (d : Nat) (a0 : Nat) (x1 : Int) (x2 : Int) (I : Nat → Nat → Int) (S : PS) (v : Int) (h1 : PM) : Prop := Ev (d + 1) mX1_isLeast (2, [some (vR (some (12, 0, a0))), some (vI x1), some (vI x2)], [], (I, S)) (.inl (some (vI v)), h1)
theorem w_X1_isLeast_0 {d : Nat} {I : Nat → Nat → Int} {S : PS} {x1 : Int} {v : Int} {h1 : PM} (hl0 : LyX1 S)
    (k1 : L_X1_isLeast_2 d 121 x1 0 I S v h1) : Ca (d + 1) mX1_isLeast [vR (some (12, 0, 121)), vI x1] (I, S) (.inl (some (vI v))) h1 :=
  Ca.of rfl rfl (
  b_X1_isLeast_0  (k1))
theorem w_X1_isLeast_2 {d : Nat} {I : Nat → Nat → Int} {S : PS} {x1 x2 : Int} {v : Int} {h1 : PM} (hl0 : LyX1 S)
    (k1 : (x2 < x1) → (¬(lsC (I 124) x2 1 x1 = true)) → (¬(lsC (I 124) x2 (x1 - 1) x1 = true)) → L_X1_isLeast_2 d 121 x1 (x2 + 1) I S v h1)
    (r1 : (x1 ≤ x2) → 1 = v)
    (e1 : (x1 ≤ x2) → (I, S) = h1 := by intros; rfl)
    (r2 : (x2 < x1) → (lsC (I 124) x2 1 x1 = true) → 0 = v)
    (e2 : (x2 < x1) → (lsC (I 124) x2 1 x1 = true) → (I, S) = h1 := by intros; rfl)
    (r3 : (x2 < x1) → (¬(lsC (I 124) x2 1 x1 = true)) → (lsC (I 124) x2 (x1 - 1) x1 = true) → 0 = v)
    (e3 : (x2 < x1) → (¬(lsC (I 124) x2 1 x1 = true)) → (lsC (I 124) x2 (x1 - 1) x1 = true) → (I, S) = h1 := by intros; rfl)
    (v1 : (x2 < x1) → 1 ≤ x1 ∧ x1 ≤ 7 := by intros; first | assumption | omega | (split <;> omega))
    (v2 : (x2 < x1) → 0 ≤ x2 ∧ x2 < x1 := by intros; first | assumption | omega | (split <;> omega))
    (v3 : (x2 < x1) → 0 ≤ (1 : Int) ∧ (1 : Int) ≤ x1 := by intros; first | assumption | omega | (split <;> omega))
    (v4 : (x2 < x1) → (¬(lsC (I 124) x2 1 x1 = true)) → -2147483648 ≤ x1 - 1 ∧ x1 - 1 ≤ 2147483647 := by intros; first | assumption | omega | (split <;> omega))
    (v5 : (x2 < x1) → (¬(lsC (I 124) x2 1 x1 = true)) → 0 ≤ (x1 - 1) ∧ (x1 - 1) ≤ x1 := by intros; first | assumption | omega | (split <;> omega))
    (v6 : (x2 < x1) → (¬(lsC (I 124) x2 1 x1 = true)) → (¬(lsC (I 124) x2 (x1 - 1) x1 = true)) → -2147483648 ≤ x2 + 1 ∧ x2 + 1 ≤ 2147483647 := by intros; first | assumption | omega | (split <;> omega)) : L_X1_isLeast_2 d 121 x1 x2 I S v h1 :=
  
  b_X1_isLeast_2  (fun (c1 : x1 ≤ x2) => ev_ret2 (r1 c1) (e1 c1) (b_X1_isLeast_37 )) (fun (c2 : x2 < x1) => 
    b_X1_isLeast_7  (c_X1_isLess hl0 (v1 c2) (v2 c2) (v3 c2)) (
    b_X1_isLeast_14  (fun c3' => have c3 : lsC (I 124) x2 1 x1 = true := b2t c3'; ev_ret2 (r2 c2 c3) (e2 c2 c3) (b_X1_isLeast_29 )) (fun c4' => have c4 : ¬(lsC (I 124) x2 1 x1 = true) := b2f c4'; 
      b_X1_isLeast_17 (v4 c2 c4) (c_X1_isLess hl0 (v1 c2) (v2 c2) (v5 c2 c4)) (
      b_X1_isLeast_26  (fun c5' => have c5 : ¬(lsC (I 124) x2 (x1 - 1) x1 = true) := b2f c5'; 
        b_X1_isLeast_31 (v6 c2 c4 c5) ((k1 c2 c4 c5))) (fun c6' => have c6 : lsC (I 124) x2 (x1 - 1) x1 = true := b2t c6'; ev_ret2 (r3 c2 c4 c6) (e3 c2 c4 c6) (b_X1_isLeast_29 ))))))
end
