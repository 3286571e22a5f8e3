noncomputable section
abbrev L_X10_isWord_28 (d : Nat) (a0 : Nat) (n1 : Nat) (a1 : Nat) (x2 : Int) (I : Nat → Nat → Int) (S : PS) (v : Int) (h1 : PM) : Prop := Ev (d + 4) mX10_isWord (28, [some (vR (some (20, 0, a0))), some (vR (some (6, n1, a1))), some (vI x2)], [], (I, S)) (.inl (some (vI v)), h1)
theorem w_X10_isWord_0 {d : Nat} {I : Nat → Nat → Int} {S : PS} {n1 a1 : Nat} {v : Int} {h1 : PM} (hl0 : LyX10 S)
    (k1 : (I 32 3 = 1) → (I 32 2 - (I 32 4) = (n1 : Int)) → L_X10_isWord_28 d 32 n1 a1 0 I S v h1)
    (r1 : (I 32 3 ≠ 1) → 0 = v)
    (e1 : (I 32 3 ≠ 1) → (I, S) = h1 := by intros; rfl)
    (r2 : (I 32 3 = 1) → (I 32 2 - (I 32 4) ≠ (n1 : Int)) → 0 = v)
    (e2 : (I 32 3 = 1) → (I 32 2 - (I 32 4) ≠ (n1 : Int)) → (I, S) = h1 := by intros; rfl)
    (v1 : (I 32 3 = 1) → -2147483648 ≤ I 32 2 - (I 32 4) ∧ I 32 2 - (I 32 4) ≤ 2147483647 := by intros; first | assumption | omega | (split <;> omega))
    (v2 : (I 32 3 = 1) → I a1 1 = 0 := by intros; first | assumption | omega | (split <;> omega))
    (v3 : (I 32 3 = 1) → S.1 a1 0 = some (7, n1, a1 + 1) := by intros; first | assumption | omega | (split <;> omega))
    (v4 : (I 32 3 = 1) → n1 ≤ 100 := by intros; first | assumption | omega | (split <;> omega)) : Ca (d + 4) mX10_isWord [vR (some (20, 0, 32)), vR (some (6, n1, a1))] (I, S) (.inl (some (vI v))) h1 :=
  Ca.of rfl rfl (
  b_X10_isWord_0  (fun (c1 : I 32 3 ≠ 1) => ev_ret2 (r1 c1) (e1 c1) (b_X10_isWord_24 )) (fun (c2 : I 32 3 = 1) => 
    b_X10_isWord_8 (v1 c2) (c_J0_length_8abf5 (v2 c2) (v3 c2) (v4 c2)) (
    b_X10_isWord_21  (fun (c3 : I 32 2 - (I 32 4) = (n1 : Int)) => 
      b_X10_isWord_26  ((k1 c2 c3))) (fun (c4 : I 32 2 - (I 32 4) ≠ (n1 : Int)) => ev_ret2 (r2 c2 c4) (e2 c2 c4) (b_X10_isWord_24 )))))
theorem w_X10_isWord_28 {d : Nat} {I : Nat → Nat → Int} {S : PS} {n1 a1 : Nat} {x2 : Int} {v : Int} {h1 : PM} (hl0 : LyX10 S)
    (k1 : (x2 < (n1 : Int)) → (I 33 (I 32 4 + x2).toNat = (I (a1 + 1) x2.toNat)) → L_X10_isWord_28 d 32 n1 a1 (x2 + 1) I S v h1)
    (r1 : ((n1 : Int) ≤ x2) → 1 = v)
    (e1 : ((n1 : Int) ≤ x2) → (I, S) = h1 := by intros; rfl)
    (r2 : (x2 < (n1 : Int)) → (I 33 (I 32 4 + x2).toNat ≠ (I (a1 + 1) x2.toNat)) → 0 = v)
    (e2 : (x2 < (n1 : Int)) → (I 33 (I 32 4 + x2).toNat ≠ (I (a1 + 1) x2.toNat)) → (I, S) = h1 := by intros; rfl)
    (v1 : I a1 1 = 0 := by intros; first | assumption | omega | (split <;> omega))
    (v2 : S.1 a1 0 = some (7, n1, a1 + 1) := by intros; first | assumption | omega | (split <;> omega))
    (v3 : n1 ≤ 100 := by intros; first | assumption | omega | (split <;> omega))
    (v4 : (x2 < (n1 : Int)) → -2147483648 ≤ I 32 4 + x2 ∧ I 32 4 + x2 ≤ 2147483647 := by intros; first | assumption | omega | (split <;> omega))
    (v5 : (x2 < (n1 : Int)) → 0 ≤ I 32 4 + x2 ∧ I 32 4 + x2 < (700 : Nat) := by intros; first | assumption | omega | (split <;> omega))
    (v6 : (x2 < (n1 : Int)) → 0 ≤ x2 ∧ x2 < (n1 : Nat) := by intros; first | assumption | omega | (split <;> omega))
    (v7 : (x2 < (n1 : Int)) → 0 ≤ I (a1 + 1) x2.toNat ∧ I (a1 + 1) x2.toNat ≤ 127 := by intros; first | assumption | omega | (split <;> omega))
    (v8 : (x2 < (n1 : Int)) → (I 33 (I 32 4 + x2).toNat = (I (a1 + 1) x2.toNat)) → -2147483648 ≤ x2 + 1 ∧ x2 + 1 ≤ 2147483647 := by intros; first | assumption | omega | (split <;> omega)) : L_X10_isWord_28 d 32 n1 a1 x2 I S v h1 :=
  
  b_X10_isWord_28  (c_J0_length_8abf5 v1 v2 v3) (
  b_X10_isWord_33  (fun (c1 : (n1 : Int) ≤ x2) => ev_ret2 (r1 c1) (e1 c1) (b_X10_isWord_63 )) (fun (c2 : x2 < (n1 : Int)) => 
    b_X10_isWord_36 (ly_X10_0 hl0) (v4 c2) (v5 c2) (c_J0_charAt_5068e v1 v2 v3 (v6 c2) (v7 c2)) (
    b_X10_isWord_52  (fun (c3 : I 33 (I 32 4 + x2).toNat = (I (a1 + 1) x2.toNat)) => 
      b_X10_isWord_57 (v8 c2 c3) ((k1 c2 c3))) (fun (c4 : I 33 (I 32 4 + x2).toNat ≠ (I (a1 + 1) x2.toNat)) => ev_ret2 (r2 c2 c4) (e2 c2 c4) (b_X10_isWord_55 )))))
end
