noncomputable section
abbrev L_X3_placesOfRing_37 (d : Nat) (a0 : Nat) (x1 : Int) (x2 : Int) (I : Nat → Nat → Int) (S : PS) (v : Int) (h1 : PM) : Prop := Ev (d + 2) mX3_placesOfRing (37, [some (vR (some (14, 0, a0))), some (vI x1), some (vI x2)], [], (I, S)) (.inl (some (vI v)), h1)
theorem w_X3_placesOfRing_0 {d : Nat} {I : Nat → Nat → Int} {S : PS} {a0 : Nat} {v : Int} {h1 : PM} (hl0 : LyX3 S a0)
    (k1 : (I a0 1 ≠ 0) → L_X3_placesOfRing_37 d a0 (if ¬(I a0 1 = I a0 0) then ((I a0 0 - (I a0 1)) - 1 : Int) else 0) 0 I S v h1)
    (r1 : (I a0 1 = 0) → I a0 0 = v)
    (e1 : (I a0 1 = 0) → (I, S) = h1 := by intros; rfl)
    (v1 : (I a0 1 ≠ 0) → (¬(I a0 1 = I a0 0)) → -2147483648 ≤ I a0 0 - (I a0 1) ∧ I a0 0 - (I a0 1) ≤ 2147483647 := by intros; first | assumption | omega | (split <;> omega))
    (v2 : (I a0 1 ≠ 0) → (¬(I a0 1 = I a0 0)) → -2147483648 ≤ (I a0 0 - (I a0 1)) - 1 ∧ (I a0 0 - (I a0 1)) - 1 ≤ 2147483647 := by intros; first | assumption | omega | (split <;> omega)) : Ca (d + 2) mX3_placesOfRing [vR (some (14, 0, a0))] (I, S) (.inl (some (vI v))) h1 :=
  Ca.of rfl rfl (
  b_X3_placesOfRing_0  (fun (c1 : I a0 1 ≠ 0) => 
    b_X3_placesOfRing_12  (c_X3_isWheel hl0) (
    have K4 : ∀ us0 : Int, us0 = (if ¬(I a0 1 = I a0 0) then ((I a0 0 - (I a0 1)) - 1 : Int) else 0) → Ev (d + 2) mX3_placesOfRing (34, [some (vR (some (14, 0, a0))), none, none], [vI us0], (I, S)) (.inl (some (vI v)), h1) := fun us0 e_us0 => by subst e_us0; exact (
      b_X3_placesOfRing_34  ((k1 c1)))
    
    b_X3_placesOfRing_16  (fun c3' => have c3 : ¬(I a0 1 = I a0 0) := b2f c3'; 
      b_X3_placesOfRing_23 (v1 c1 c3) (v2 c1 c3) (K4 ((I a0 0 - (I a0 1)) - 1) ((if_pos c3).symm))) (fun c4' => have c4 : I a0 1 = I a0 0 := b2t c4'; 
      b_X3_placesOfRing_19  (K4 0 ((if_neg (fun q => q c4)).symm))))) (fun (c2 : I a0 1 = 0) => ev_ret2 (r1 c2) (e1 c2) (b_X3_placesOfRing_7 )))
theorem w_X3_placesOfRing_37 {d : Nat} {I : Nat → Nat → Int} {S : PS} {a0 : Nat} {x1 x2 : Int} {v : Int} {h1 : PM} (hl0 : LyX3 S a0)
    (k1 : (x2 < I a0 1) → L_X3_placesOfRing_37 d a0 (x1 + ((f_X3_edgesToRing I a0 x2) - 1)) (x2 + 1) I S v h1)
    (r1 : (I a0 1 ≤ x2) → x1 = v)
    (e1 : (I a0 1 ≤ x2) → (I, S) = h1 := by intros; rfl)
    (v1 : (x2 < I a0 1) → cPc I a0 := by intros; first | assumption | omega | (split <;> omega))
    (v2 : (x2 < I a0 1) → 0 ≤ x2 ∧ x2 < I a0 1 := by intros; first | assumption | omega | (split <;> omega))
    (v3 : (x2 < I a0 1) → -2147483648 ≤ (f_X3_edgesToRing I a0 x2) - 1 ∧ (f_X3_edgesToRing I a0 x2) - 1 ≤ 2147483647 := by intros; first | assumption | omega | (split <;> omega))
    (v4 : (x2 < I a0 1) → -2147483648 ≤ x1 + ((f_X3_edgesToRing I a0 x2) - 1) ∧ x1 + ((f_X3_edgesToRing I a0 x2) - 1) ≤ 2147483647 := by intros; first | assumption | omega | (split <;> omega))
    (v5 : (x2 < I a0 1) → -2147483648 ≤ x2 + 1 ∧ x2 + 1 ≤ 2147483647 := by intros; first | assumption | omega | (split <;> omega)) : L_X3_placesOfRing_37 d a0 x1 x2 I S v h1 :=
  
  b_X3_placesOfRing_37  (fun (c1 : I a0 1 ≤ x2) => ev_ret2 (r1 c1) (e1 c1) (b_X3_placesOfRing_61 )) (fun (c2 : x2 < I a0 1) => 
    b_X3_placesOfRing_45  (k_X3_edgesToRing hl0 (v1 c2) (v2 c2)) (
    b_X3_placesOfRing_51 (v3 c2) (v4 c2) (v5 c2) ((k1 c2))))
abbrev L_X3_linkBorder_4 (d : Nat) (a0 : Nat) (x1 : Int) (x2 : Int) (I : Nat → Nat → Int) (S : PS) (h1 : PM) : Prop := Ev (d + 2) mX3_linkBorder (4, [some (vR (some (14, 0, a0))), some (vI x1), some (vI x2), none], [], (I, S)) (.inl none, h1)
theorem w_X3_linkBorder_0 {d : Nat} {I : Nat → Nat → Int} {S : PS} {a0 : Nat} {h1 : PM} (hl0 : LyX3 S a0)
    (k1 : L_X3_linkBorder_4 d a0 0 0 I S h1) : Ca (d + 2) mX3_linkBorder [vR (some (14, 0, a0))] (I, S) (.inl none) h1 :=
  Ca.of rfl rfl (
  b_X3_linkBorder_0  (k1))
theorem w_X3_linkBorder_4 {d : Nat} {I : Nat → Nat → Int} {S : PS} {a0 : Nat} {x1 x2 : Int} {h1 : PM} (hl0 : LyX3 S a0)
    (k1 : (x2 < I a0 1) → L_X3_linkBorder_4 d a0 (x1 + ((f_X3_edgesToRing I a0 x2) - 1)) (x2 + 1) (up1 I (a0 + 2) (lkP (I (a0 + 2)) (I a0 3 + 1 + x2) x1 (I a0 3) (f_X3_edgesToRing I a0 x2).toNat)) S h1)
    (e1 : (I a0 1 ≤ x2) → (I a0 1 = I a0 0) → (I, S) = h1 := by intros; rfl)
    (e2 : (I a0 1 ≤ x2) → (¬(I a0 1 = I a0 0)) → ((up1 I (a0 + 2) (lkP (I (a0 + 2)) (I a0 3) x1 (I a0 3) (I a0 0 - (I a0 1)).toNat)), S) = h1 := by intros; rfl)
    (v1 : (I a0 1 ≤ x2) → (¬(I a0 1 = I a0 0)) → -2147483648 ≤ I a0 0 - (I a0 1) ∧ I a0 0 - (I a0 1) ≤ 2147483647 := by intros; first | assumption | omega | (split <;> omega))
    (v2 : (I a0 1 ≤ x2) → (¬(I a0 1 = I a0 0)) → 0 ≤ (I a0 3) ∧ (I a0 3) < 15 := by intros; first | assumption | omega | (split <;> omega))
    (v3 : (I a0 1 ≤ x2) → (¬(I a0 1 = I a0 0)) → 1 ≤ I a0 3 ∧ I a0 3 ≤ 7 := by intros; first | assumption | omega | (split <;> omega))
    (v4 : (I a0 1 ≤ x2) → (¬(I a0 1 = I a0 0)) → 0 ≤ x1 ∧ x1 ≤ I a0 3 := by intros; first | assumption | omega | (split <;> omega))
    (v5 : (I a0 1 ≤ x2) → (¬(I a0 1 = I a0 0)) → (I a0 0 - (I a0 1)) ≤ 100 := by intros; first | assumption | omega | (split <;> omega))
    (v6 : (x2 < I a0 1) → cPc I a0 := by intros; first | assumption | omega | (split <;> omega))
    (v7 : (x2 < I a0 1) → 0 ≤ x2 ∧ x2 < I a0 1 := by intros; first | assumption | omega | (split <;> omega))
    (v8 : (x2 < I a0 1) → -2147483648 ≤ I a0 3 + 1 ∧ I a0 3 + 1 ≤ 2147483647 := by intros; first | assumption | omega | (split <;> omega))
    (v9 : (x2 < I a0 1) → -2147483648 ≤ I a0 3 + 1 + x2 ∧ I a0 3 + 1 + x2 ≤ 2147483647 := by intros; first | assumption | omega | (split <;> omega))
    (v10 : (x2 < I a0 1) → 0 ≤ (I a0 3 + 1 + x2) ∧ (I a0 3 + 1 + x2) < 15 := by intros; first | assumption | omega | (split <;> omega))
    (v11 : (x2 < I a0 1) → 1 ≤ I a0 3 ∧ I a0 3 ≤ 7 := by intros; first | assumption | omega | (split <;> omega))
    (v12 : (x2 < I a0 1) → 0 ≤ x1 ∧ x1 ≤ I a0 3 := by intros; first | assumption | omega | (split <;> omega))
    (v13 : (x2 < I a0 1) → (f_X3_edgesToRing I a0 x2) ≤ 100 := by intros; first | assumption | omega | (split <;> omega))
    (v14 : (x2 < I a0 1) → -2147483648 ≤ (f_X3_edgesToRing I a0 x2) - 1 ∧ (f_X3_edgesToRing I a0 x2) - 1 ≤ 2147483647 := by intros; first | assumption | omega | (split <;> omega))
    (v15 : (x2 < I a0 1) → -2147483648 ≤ x1 + ((f_X3_edgesToRing I a0 x2) - 1) ∧ x1 + ((f_X3_edgesToRing I a0 x2) - 1) ≤ 2147483647 := by intros; first | assumption | omega | (split <;> omega))
    (v16 : (x2 < I a0 1) → -2147483648 ≤ x2 + 1 ∧ x2 + 1 ≤ 2147483647 := by intros; first | assumption | omega | (split <;> omega)) : L_X3_linkBorder_4 d a0 x1 x2 I S h1 :=
  
  b_X3_linkBorder_4  (fun (c1 : I a0 1 ≤ x2) => 
    b_X3_linkBorder_44  (c_X3_isWheel hl0) (
    b_X3_linkBorder_48  (fun c3' => have c3 : I a0 1 = I a0 0 := b2t c3'; ev_retV (e1 c1 c3) (b_X3_linkBorder_69 )) (fun c4' => have c4 : ¬(I a0 1 = I a0 0) := b2f c4'; 
      b_X3_linkBorder_51 (v1 c1 c4) (c_X3_linkPlaces hl0 (v2 c1 c4) (v3 c1 c4) (v4 c1 c4) (v5 c1 c4)) (ev_retV (e2 c1 c4) (b_X3_linkBorder_69 ))))) (fun (c2 : x2 < I a0 1) => 
    b_X3_linkBorder_12  (k_X3_edgesToRing hl0 (v6 c2) (v7 c2)) (
    b_X3_linkBorder_17 (v8 c2) (v9 c2) (c_X3_linkPlaces hl0 (v10 c2) (v11 c2) (v12 c2) (v13 c2)) (
    b_X3_linkBorder_32 (v14 c2) (v15 c2) (v16 c2) ((k1 c2)))))
end
