noncomputable section
abbrev L_X3_edgeCount_4 (d : Nat) (a0 : Nat) (x1 : Int) (x2 : Int) (I : Nat → Nat → Int) (S : PS) (v : Int) (h1 : PM) : Prop := Ev (d + 1) mX3_edgeCount (4, [some (vR (some (14, 0, a0))), some (vI x1), some (vI x2)], [], (I, S)) (.inl (some (vI v)), h1)
theorem w_X3_edgeCount_0 {d : Nat} {I : Nat → Nat → Int} {S : PS} {a0 : Nat} {v : Int} {h1 : PM} (hl0 : LyX3 S a0)
    (k1 : L_X3_edgeCount_4 d a0 0 0 I S v h1) : Ca (d + 1) mX3_edgeCount [vR (some (14, 0, a0))] (I, S) (.inl (some (vI v))) h1 :=
  Ca.of rfl rfl (
  b_X3_edgeCount_0  (k1))
theorem w_X3_edgeCount_4 {d : Nat} {I : Nat → Nat → Int} {S : PS} {a0 : Nat} {x1 x2 : Int} {v : Int} {h1 : PM} (hl0 : LyX3 S a0)
    (k1 : (x2 < I a0 4) → L_X3_edgeCount_4 d a0 (x1 + (bcn (I (a0 + 2) x2.toNat) 32)) (x2 + 1) I S v h1)
    (r1 : (I a0 4 ≤ x2) → x1 / 2 = v)
    (e1 : (I a0 4 ≤ x2) → (I, S) = h1 := by intros; rfl)
    (v1 : (I a0 4 ≤ x2) → (0 ≤ x1 ∧ x1 ≤ 2147483647) ∧ 0 < (2 : Int) ∧ (2 : Int) ≤ 2147483647 := by intros; first | assumption | omega | (split <;> omega))
    (v2 : (x2 < I a0 4) → 0 ≤ x2 ∧ x2 < (15 : Nat) := by intros; first | assumption | omega | (split <;> omega))
    (v3 : (x2 < I a0 4) → -2147483648 ≤ x1 + (bcn (I (a0 + 2) x2.toNat) 32) ∧ x1 + (bcn (I (a0 + 2) x2.toNat) 32) ≤ 2147483647 := by intros; first | assumption | omega | (split <;> omega))
    (v4 : (x2 < I a0 4) → -2147483648 ≤ x2 + 1 ∧ x2 + 1 ≤ 2147483647 := by intros; first | assumption | omega | (split <;> omega)) : L_X3_edgeCount_4 d a0 x1 x2 I S v h1 :=
  
  b_X3_edgeCount_4  (fun (c1 : I a0 4 ≤ x2) => ev_ret2 (r1 c1) (e1 c1) (b_X3_edgeCount_30 (v1 c1))) (fun (c2 : x2 < I a0 4) => 
    b_X3_edgeCount_12 (ly_X3_5 hl0) (v2 c2) k_J6_bitCount_0f7a4 (
    b_X3_edgeCount_22 (v3 c2) (v4 c2) ((k1 c2))))
abbrev L_X3_sizeOf_4 (d : Nat) (a0 : Nat) (n1 : Nat) (a1 : Nat) (x2 : Int) (x3 : Int) (I : Nat → Nat → Int) (S : PS) (v : Int) (h1 : PM) : Prop := Ev (d + 1) mX3_sizeOf (4, [some (vR (some (14, 0, a0))), some (vR (some (0, n1, a1))), some (vI x2), some (vI x3)], [], (I, S)) (.inl (some (vI v)), h1)
theorem w_X3_sizeOf_0 {d : Nat} {I : Nat → Nat → Int} {S : PS} {a0 n1 a1 : Nat} {v : Int} {h1 : PM} (hl0 : LyX3 S a0)
    (k1 : L_X3_sizeOf_4 d a0 n1 a1 0 0 I S v h1) : Ca (d + 1) mX3_sizeOf [vR (some (14, 0, a0)), vR (some (0, n1, a1))] (I, S) (.inl (some (vI v))) h1 :=
  Ca.of rfl rfl (
  b_X3_sizeOf_0  (k1))
theorem w_X3_sizeOf_4 {d : Nat} {I : Nat → Nat → Int} {S : PS} {a0 n1 a1 : Nat} {x2 x3 : Int} {v : Int} {h1 : PM} (hl0 : LyX3 S a0)
    (k1 : (x3 < (n1 : Int)) → L_X3_sizeOf_4 d a0 n1 a1 (x2 + (bcn (I a1 x3.toNat) 32)) (x3 + 1) I S v h1)
    (r1 : ((n1 : Int) ≤ x3) → x2 = v)
    (e1 : ((n1 : Int) ≤ x3) → (I, S) = h1 := by intros; rfl)
    (v1 : n1 ≤ 100000 := by intros; first | assumption | omega | (split <;> omega))
    (v2 : (x3 < (n1 : Int)) → 0 ≤ x3 ∧ x3 < (n1 : Nat) := by intros; first | assumption | omega | (split <;> omega))
    (v3 : (x3 < (n1 : Int)) → -2147483648 ≤ x2 + (bcn (I a1 x3.toNat) 32) ∧ x2 + (bcn (I a1 x3.toNat) 32) ≤ 2147483647 := by intros; first | assumption | omega | (split <;> omega))
    (v4 : (x3 < (n1 : Int)) → -2147483648 ≤ x3 + 1 ∧ x3 + 1 ≤ 2147483647 := by intros; first | assumption | omega | (split <;> omega)) : L_X3_sizeOf_4 d a0 n1 a1 x2 x3 I S v h1 :=
  
  b_X3_sizeOf_4 v1 (fun (c1 : (n1 : Int) ≤ x3) => ev_ret2 (r1 c1) (e1 c1) (b_X3_sizeOf_25 )) (fun (c2 : x3 < (n1 : Int)) => 
    b_X3_sizeOf_10 (v2 c2) k_J6_bitCount_0f7a4 (
    b_X3_sizeOf_17 (v3 c2) (v4 c2) ((k1 c2))))
abbrev L_X11_chargeBehind_4 (d : Nat) (a0 : Nat) (x1 : Int) (x2 : Int) (I : Nat → Nat → Int) (S : PS) (v : Int) (h1 : PM) : Prop := Ev (d + 5) mX11_chargeBehind (4, [some (vR (some (21, 0, a0))), some (vI x1), some (vI x2)], [], (I, S)) (.inl (some (vI v)), h1)
theorem w_X11_chargeBehind_0 {d : Nat} {I : Nat → Nat → Int} {S : PS} {T U : Nat} {v : Int} {h1 : PM} (hl0 : LyX11 S T U)
    (k1 : L_X11_chargeBehind_4 d 31 0 0 I S v h1) : Ca (d + 5) mX11_chargeBehind [vR (some (21, 0, 31))] (I, S) (.inl (some (vI v))) h1 :=
  Ca.of rfl rfl (
  b_X11_chargeBehind_0  (k1))
theorem w_X11_chargeBehind_4 {d : Nat} {I : Nat → Nat → Int} {S : PS} {x1 x2 : Int} {T U : Nat} {v : Int} {h1 : PM} (hl0 : LyX11 S T U)
    (k1 : (x2 < I T 6) → L_X11_chargeBehind_4 d 31 (x1 + (ccs I T x2)) (x2 + 1) (roI I T 152 x2) S v h1)
    (r1 : (I T 6 ≤ x2) → x1 = v)
    (e1 : (I T 6 ≤ x2) → (I, S) = h1 := by intros; rfl)
    (v1 : (x2 < I T 6) → T = 34 ∨ T = 77 := by intros; first | assumption | omega | (split <;> omega))
    (v2 : (x2 < I T 6) → cSp I T := by intros; first | assumption | omega | (split <;> omega))
    (v3 : (x2 < I T 6) → cRl I T := by intros; first | assumption | omega | (split <;> omega))
    (v4 : (x2 < I T 6) → 0 ≤ x2 ∧ x2 < I T 6 := by intros; first | assumption | omega | (split <;> omega))
    (v5 : (x2 < I T 6) → -2147483648 ≤ x1 + (ccs I T x2) ∧ x1 + (ccs I T x2) ≤ 2147483647 := by intros; first | assumption | omega | (split <;> omega))
    (v6 : (x2 < I T 6) → -2147483648 ≤ x2 + 1 ∧ x2 + 1 ≤ 2147483647 := by intros; first | assumption | omega | (split <;> omega)) : L_X11_chargeBehind_4 d 31 x1 x2 I S v h1 :=
  
  b_X11_chargeBehind_4 (ly_X11_2 hl0) (fun (c1 : I T 6 ≤ x2) => ev_ret2 (r1 c1) (e1 c1) (b_X11_chargeBehind_29 )) (fun (c2 : x2 < I T 6) => 
    b_X11_chargeBehind_15  (k_X11_spotCharge hl0 (v1 c2) (v2 c2) (v3 c2) (v4 c2)) (
    b_X11_chargeBehind_21 (v5 c2) (v6 c2) ((k1 c2))))
abbrev L_X11_positiveSpots_4 (d : Nat) (a0 : Nat) (x1 : Int) (x2 : Int) (I : Nat → Nat → Int) (S : PS) (v : Int) (h1 : PM) : Prop := Ev (d + 5) mX11_positiveSpots (4, [some (vR (some (21, 0, a0))), some (vI x1), some (vI x2)], [], (I, S)) (.inl (some (vI v)), h1)
theorem w_X11_positiveSpots_0 {d : Nat} {I : Nat → Nat → Int} {S : PS} {T U : Nat} {v : Int} {h1 : PM} (hl0 : LyX11 S T U)
    (k1 : L_X11_positiveSpots_4 d 31 0 0 I S v h1) : Ca (d + 5) mX11_positiveSpots [vR (some (21, 0, 31))] (I, S) (.inl (some (vI v))) h1 :=
  Ca.of rfl rfl (
  b_X11_positiveSpots_0  (k1))
theorem w_X11_positiveSpots_4 {d : Nat} {I : Nat → Nat → Int} {S : PS} {x1 x2 : Int} {T U : Nat} {v : Int} {h1 : PM} (hl0 : LyX11 S T U)
    (k1 : (x2 < I T 6) → L_X11_positiveSpots_4 d 31 (if (ccs I T x2) ≤ 0 then (x1 : Int) else p_or x1 (p_shl 1 x2)) (x2 + 1) (roI I T 152 x2) S v h1)
    (r1 : (I T 6 ≤ x2) → x1 = v)
    (e1 : (I T 6 ≤ x2) → (I, S) = h1 := by intros; rfl)
    (v1 : (x2 < I T 6) → T = 34 ∨ T = 77 := by intros; first | assumption | omega | (split <;> omega))
    (v2 : (x2 < I T 6) → cSp I T := by intros; first | assumption | omega | (split <;> omega))
    (v3 : (x2 < I T 6) → cRl I T := by intros; first | assumption | omega | (split <;> omega))
    (v4 : (x2 < I T 6) → 0 ≤ x2 ∧ x2 < I T 6 := by intros; first | assumption | omega | (split <;> omega))
    (v5 : (x2 < I T 6) → -2147483648 ≤ x2 + 1 ∧ x2 + 1 ≤ 2147483647 := by intros; first | assumption | omega | (split <;> omega)) : L_X11_positiveSpots_4 d 31 x1 x2 I S v h1 :=
  
  b_X11_positiveSpots_4 (ly_X11_2 hl0) (fun (c1 : I T 6 ≤ x2) => ev_ret2 (r1 c1) (e1 c1) (b_X11_positiveSpots_35 )) (fun (c2 : x2 < I T 6) => 
    b_X11_positiveSpots_15  (k_X11_spotCharge hl0 (v1 c2) (v2 c2) (v3 c2) (v4 c2)) (
    have K4 : ∀ u1 : Int, u1 = (if (ccs I T x2) ≤ 0 then (x1 : Int) else p_or x1 (p_shl 1 x2)) → Ev (d + 5) mX11_positiveSpots (29, [some (vR (some (21, 0, 31))), some (vI u1), some (vI x2)], [], ((roI I T 152 x2), S)) (.inl (some (vI v)), h1) := fun u1 e_u1 => by subst e_u1; exact (
      b_X11_positiveSpots_29 (v5 c2) ((k1 c2)))
    
    b_X11_positiveSpots_20  (fun (c3 : (ccs I T x2) ≤ 0) => K4 x1 ((if_pos c3).symm)) (fun (c4 : 0 < (ccs I T x2)) => 
      b_X11_positiveSpots_23  (K4 (p_or x1 (p_shl 1 x2)) ((if_neg (Int.not_le.mpr c4)).symm)))))
end
