noncomputable section
abbrev L_X3_build_52 (d : Nat) (a0 : Nat) (x1 : Int) (I : Nat → Nat → Int) (S : PS) (v : Int) (h1 : PM) : Prop := Ev (d + 3) mX3_build (52, [some (vR (some (14, 0, a0))), some (vI x1)], [], (I, S)) (.inl (some (vI v)), h1)
abbrev L_X3_build_90 (d : Nat) (a0 : Nat) (x1 : Int) (I : Nat → Nat → Int) (S : PS) (v : Int) (h1 : PM) : Prop := Ev (d + 3) mX3_build (90, [some (vR (some (14, 0, a0))), some (vI x1)], [], (I, S)) (.inl (some (vI v)), h1)
theorem w_X3_build_0 {d : Nat} {I : Nat → Nat → Int} {S : PS} {a0 : Nat} {v : Int} {h1 : PM} (hl0 : LyX3 S a0)
    (k1 : ((up2 I a0 3 (prC I a0)) a0 3 ≤ 7) → L_X3_build_52 d a0 0 (up1 (up1 (up2 (up2 I a0 3 (prC I a0)) a0 4 ((((up2 I a0 3 (prC I a0)) a0 3) + 1) + ((up2 I a0 3 (prC I a0)) a0 1))) (a0 + 2) (upTo ((up2 (up2 I a0 3 (prC I a0)) a0 4 ((((up2 I a0 3 (prC I a0)) a0 3) + 1) + ((up2 I a0 3 (prC I a0)) a0 1))) (a0 + 2)) (fun _ => 0) 0 15)) (a0 + 3) (upTo ((up1 (up2 (up2 I a0 3 (prC I a0)) a0 4 ((((up2 I a0 3 (prC I a0)) a0 3) + 1) + ((up2 I a0 3 (prC I a0)) a0 1))) (a0 + 2) (upTo ((up2 (up2 I a0 3 (prC I a0)) a0 4 ((((up2 I a0 3 (prC I a0)) a0 3) + 1) + ((up2 I a0 3 (prC I a0)) a0 1))) (a0 + 2)) (fun _ => 0) 0 15)) (a0 + 3)) (fun _ => 0) 0 15)) S v h1)
    (r1 : (7 < (up2 I a0 3 (prC I a0)) a0 3) → 0 = v)
    (e1 : (7 < (up2 I a0 3 (prC I a0)) a0 3) → ((up2 I a0 3 (prC I a0)), S) = h1 := by intros; rfl)
    (v1 : cPc I a0 := by intros; first | assumption | omega | (split <;> omega))
    (v2 : ((up2 I a0 3 (prC I a0)) a0 3 ≤ 7) → -2147483648 ≤ ((up2 I a0 3 (prC I a0)) a0 3) + 1 ∧ ((up2 I a0 3 (prC I a0)) a0 3) + 1 ≤ 2147483647 := by intros; first | assumption | omega | (split <;> omega))
    (v3 : ((up2 I a0 3 (prC I a0)) a0 3 ≤ 7) → -2147483648 ≤ (((up2 I a0 3 (prC I a0)) a0 3) + 1) + ((up2 I a0 3 (prC I a0)) a0 1) ∧ (((up2 I a0 3 (prC I a0)) a0 3) + 1) + ((up2 I a0 3 (prC I a0)) a0 1) ≤ 2147483647 := by intros; first | assumption | omega | (split <;> omega)) : Ca (d + 3) mX3_build [vR (some (14, 0, a0))] (I, S) (.inl (some (vI v))) h1 :=
  Ca.of rfl rfl (
  b_X3_build_0  (c_X3_placesOfRing hl0 v1) (
  b_X3_build_5  (fun (c1 : (up2 I a0 3 (prC I a0)) a0 3 ≤ 7) => 
    b_X3_build_19 (v2 c1) (v3 c1) (ly_X3_5 hl0) (c_J7_fill_53178 (by decide)) (
    b_X3_build_42 (ly_X3_7 hl0) (c_J7_fill_53178 (by decide)) (
    b_X3_build_50  ((k1 c1))))) (fun (c2 : 7 < (up2 I a0 3 (prC I a0)) a0 3) => ev_ret2 (r1 c2) (e1 c2) (b_X3_build_17 ))))
theorem w_X3_build_52 {d : Nat} {I : Nat → Nat → Int} {S : PS} {a0 : Nat} {x1 : Int} {v : Int} {h1 : PM} (hl0 : LyX3 S a0)
    (k1 : (I a0 3 ≤ x1) → L_X3_build_90 d a0 0 I S v h1)
    (k2 : (x1 < I a0 3) → L_X3_build_52 d a0 (x1 + 1) (up1 I (a0 + 2) (lk (I (a0 + 2)) x1 (if I a0 3 ≤ x1 + 1 then (0 : Int) else x1 + 1))) S v h1)
    (v1 : (x1 < I a0 3) → -2147483648 ≤ x1 + 1 ∧ x1 + 1 ≤ 2147483647 := by intros; first | assumption | omega | (split <;> omega))
    (v2 : (x1 < I a0 3) → 0 ≤ x1 ∧ x1 < 15 := by intros; first | assumption | omega | (split <;> omega))
    (v3 : (x1 < I a0 3) → 0 ≤ (if I a0 3 ≤ x1 + 1 then (0 : Int) else x1 + 1) ∧ (if I a0 3 ≤ x1 + 1 then (0 : Int) else x1 + 1) < 15 := by intros; first | assumption | omega | (split <;> omega)) : L_X3_build_52 d a0 x1 I S v h1 :=
  
  b_X3_build_52  (fun (c1 : I a0 3 ≤ x1) => 
    b_X3_build_88  ((k1 c1))) (fun (c2 : x1 < I a0 3) => 
    have K4 : ∀ us2 : Int, us2 = (if I a0 3 ≤ x1 + 1 then (0 : Int) else x1 + 1) → Ev (d + 3) mX3_build (79, [some (vR (some (14, 0, a0))), some (vI x1)], [vI us2, vI x1, vR (some (14, 0, a0))], (I, S)) (.inl (some (vI v)), h1) := fun us2 e_us2 => by subst e_us2; exact (
      b_X3_build_79  (k_X3_link hl0 (v2 c2) (v3 c2)) (
      b_X3_build_82 (v1 c2) ((k2 c2))))
    
    b_X3_build_60 (v1 c2) (fun (c3 : I a0 3 ≤ x1 + 1) => 
      b_X3_build_78  (K4 0 ((if_pos c3).symm))) (fun (c4 : x1 + 1 < I a0 3) => 
      b_X3_build_72 (v1 c2) (K4 (x1 + 1) ((if_neg (Int.not_le.mpr c4)).symm))))
theorem w_X3_build_90 {d : Nat} {I : Nat → Nat → Int} {S : PS} {a0 : Nat} {x1 : Int} {v : Int} {h1 : PM} (hl0 : LyX3 S a0)
    (k1 : (x1 < I a0 1) → ((up1 I (a0 + 2) (lk (I (a0 + 2)) (I a0 3) (I a0 3 + 1 + x1))) a0 1 ≤ x1 + 1) → L_X3_build_90 d a0 (x1 + 1) (up1 I (a0 + 2) (lk (I (a0 + 2)) (I a0 3) (I a0 3 + 1 + x1))) S v h1)
    (k2 : (x1 < I a0 1) → (x1 + 1 < (up1 I (a0 + 2) (lk (I (a0 + 2)) (I a0 3) (I a0 3 + 1 + x1))) a0 1) → L_X3_build_90 d a0 (x1 + 1) (up1 (up1 I (a0 + 2) (lk (I (a0 + 2)) (I a0 3) (I a0 3 + 1 + x1))) (a0 + 2) (lk ((up1 I (a0 + 2) (lk (I (a0 + 2)) (I a0 3) (I a0 3 + 1 + x1))) (a0 + 2)) ((((up1 I (a0 + 2) (lk (I (a0 + 2)) (I a0 3) (I a0 3 + 1 + x1))) a0 3) + 1) + x1) ((((up1 I (a0 + 2) (lk (I (a0 + 2)) (I a0 3) (I a0 3 + 1 + x1))) a0 3) + 2) + x1))) S v h1)
    (r1 : (I a0 1 ≤ x1) → (¬(I a0 1 = I a0 0)) → 1 = v)
    (e1 : (I a0 1 ≤ x1) → (¬(I a0 1 = I a0 0)) → ((up1 I (a0 + 2) (lkL (I (a0 + 2)) (edCL I a0))), S) = h1 := by intros; rfl)
    (r2 : (I a0 1 ≤ x1) → (I a0 1 = I a0 0) → 1 = v)
    (e2 : (I a0 1 ≤ x1) → (I a0 1 = I a0 0) → ((up1 (up1 I (a0 + 2) (lk (I (a0 + 2)) (I a0 3 + (I a0 1)) (I a0 3 + 1))) (a0 + 2) (lkL ((up1 I (a0 + 2) (lk (I (a0 + 2)) (I a0 3 + (I a0 1)) (I a0 3 + 1))) (a0 + 2)) (edCL (up1 I (a0 + 2) (lk (I (a0 + 2)) (I a0 3 + (I a0 1)) (I a0 3 + 1))) a0))), S) = h1 := by intros; rfl)
    (v1 : (I a0 1 ≤ x1) → (¬(I a0 1 = I a0 0)) → cPc I a0 := by intros; first | assumption | omega | (split <;> omega))
    (v2 : (I a0 1 ≤ x1) → (¬(I a0 1 = I a0 0)) → I a0 3 = prC I a0 := by intros; first | assumption | omega | (split <;> omega))
    (v3 : (I a0 1 ≤ x1) → (¬(I a0 1 = I a0 0)) → I a0 3 ≤ 7 := by intros; first | assumption | omega | (split <;> omega))
    (v4 : (I a0 1 ≤ x1) → (I a0 1 = I a0 0) → -2147483648 ≤ I a0 3 + (I a0 1) ∧ I a0 3 + (I a0 1) ≤ 2147483647 := by intros; first | assumption | omega | (split <;> omega))
    (v5 : (I a0 1 ≤ x1) → (I a0 1 = I a0 0) → -2147483648 ≤ I a0 3 + 1 ∧ I a0 3 + 1 ≤ 2147483647 := by intros; first | assumption | omega | (split <;> omega))
    (v6 : (I a0 1 ≤ x1) → (I a0 1 = I a0 0) → 0 ≤ (I a0 3 + (I a0 1)) ∧ (I a0 3 + (I a0 1)) < 15 := by intros; first | assumption | omega | (split <;> omega))
    (v7 : (I a0 1 ≤ x1) → (I a0 1 = I a0 0) → 0 ≤ (I a0 3 + 1) ∧ (I a0 3 + 1) < 15 := by intros; first | assumption | omega | (split <;> omega))
    (v8 : (I a0 1 ≤ x1) → (I a0 1 = I a0 0) → cPc (up1 I (a0 + 2) (lk (I (a0 + 2)) (I a0 3 + (I a0 1)) (I a0 3 + 1))) a0 := by intros; first | assumption | omega | (split <;> omega))
    (v9 : (I a0 1 ≤ x1) → (I a0 1 = I a0 0) → (up1 I (a0 + 2) (lk (I (a0 + 2)) (I a0 3 + (I a0 1)) (I a0 3 + 1))) a0 3 = prC (up1 I (a0 + 2) (lk (I (a0 + 2)) (I a0 3 + (I a0 1)) (I a0 3 + 1))) a0 := by intros; first | assumption | omega | (split <;> omega))
    (v10 : (I a0 1 ≤ x1) → (I a0 1 = I a0 0) → (up1 I (a0 + 2) (lk (I (a0 + 2)) (I a0 3 + (I a0 1)) (I a0 3 + 1))) a0 3 ≤ 7 := by intros; first | assumption | omega | (split <;> omega))
    (v11 : (x1 < I a0 1) → -2147483648 ≤ I a0 3 + 1 ∧ I a0 3 + 1 ≤ 2147483647 := by intros; first | assumption | omega | (split <;> omega))
    (v12 : (x1 < I a0 1) → -2147483648 ≤ I a0 3 + 1 + x1 ∧ I a0 3 + 1 + x1 ≤ 2147483647 := by intros; first | assumption | omega | (split <;> omega))
    (v13 : (x1 < I a0 1) → 0 ≤ (I a0 3) ∧ (I a0 3) < 15 := by intros; first | assumption | omega | (split <;> omega))
    (v14 : (x1 < I a0 1) → 0 ≤ (I a0 3 + 1 + x1) ∧ (I a0 3 + 1 + x1) < 15 := by intros; first | assumption | omega | (split <;> omega))
    (v15 : (x1 < I a0 1) → -2147483648 ≤ x1 + 1 ∧ x1 + 1 ≤ 2147483647 := by intros; first | assumption | omega | (split <;> omega))
    (v16 : (x1 < I a0 1) → (x1 + 1 < (up1 I (a0 + 2) (lk (I (a0 + 2)) (I a0 3) (I a0 3 + 1 + x1))) a0 1) → -2147483648 ≤ ((up1 I (a0 + 2) (lk (I (a0 + 2)) (I a0 3) (I a0 3 + 1 + x1))) a0 3) + 1 ∧ ((up1 I (a0 + 2) (lk (I (a0 + 2)) (I a0 3) (I a0 3 + 1 + x1))) a0 3) + 1 ≤ 2147483647 := by intros; first | assumption | omega | (split <;> omega))
    (v17 : (x1 < I a0 1) → (x1 + 1 < (up1 I (a0 + 2) (lk (I (a0 + 2)) (I a0 3) (I a0 3 + 1 + x1))) a0 1) → -2147483648 ≤ (((up1 I (a0 + 2) (lk (I (a0 + 2)) (I a0 3) (I a0 3 + 1 + x1))) a0 3) + 1) + x1 ∧ (((up1 I (a0 + 2) (lk (I (a0 + 2)) (I a0 3) (I a0 3 + 1 + x1))) a0 3) + 1) + x1 ≤ 2147483647 := by intros; first | assumption | omega | (split <;> omega))
    (v18 : (x1 < I a0 1) → (x1 + 1 < (up1 I (a0 + 2) (lk (I (a0 + 2)) (I a0 3) (I a0 3 + 1 + x1))) a0 1) → -2147483648 ≤ ((up1 I (a0 + 2) (lk (I (a0 + 2)) (I a0 3) (I a0 3 + 1 + x1))) a0 3) + 2 ∧ ((up1 I (a0 + 2) (lk (I (a0 + 2)) (I a0 3) (I a0 3 + 1 + x1))) a0 3) + 2 ≤ 2147483647 := by intros; first | assumption | omega | (split <;> omega))
    (v19 : (x1 < I a0 1) → (x1 + 1 < (up1 I (a0 + 2) (lk (I (a0 + 2)) (I a0 3) (I a0 3 + 1 + x1))) a0 1) → -2147483648 ≤ (((up1 I (a0 + 2) (lk (I (a0 + 2)) (I a0 3) (I a0 3 + 1 + x1))) a0 3) + 2) + x1 ∧ (((up1 I (a0 + 2) (lk (I (a0 + 2)) (I a0 3) (I a0 3 + 1 + x1))) a0 3) + 2) + x1 ≤ 2147483647 := by intros; first | assumption | omega | (split <;> omega))
    (v20 : (x1 < I a0 1) → (x1 + 1 < (up1 I (a0 + 2) (lk (I (a0 + 2)) (I a0 3) (I a0 3 + 1 + x1))) a0 1) → 0 ≤ ((((up1 I (a0 + 2) (lk (I (a0 + 2)) (I a0 3) (I a0 3 + 1 + x1))) a0 3) + 1) + x1) ∧ ((((up1 I (a0 + 2) (lk (I (a0 + 2)) (I a0 3) (I a0 3 + 1 + x1))) a0 3) + 1) + x1) < 15 := by intros; first | assumption | omega | (split <;> omega))
    (v21 : (x1 < I a0 1) → (x1 + 1 < (up1 I (a0 + 2) (lk (I (a0 + 2)) (I a0 3) (I a0 3 + 1 + x1))) a0 1) → 0 ≤ ((((up1 I (a0 + 2) (lk (I (a0 + 2)) (I a0 3) (I a0 3 + 1 + x1))) a0 3) + 2) + x1) ∧ ((((up1 I (a0 + 2) (lk (I (a0 + 2)) (I a0 3) (I a0 3 + 1 + x1))) a0 3) + 2) + x1) < 15 := by intros; first | assumption | omega | (split <;> omega)) : L_X3_build_90 d a0 x1 I S v h1 :=
  
  b_X3_build_90  (fun (c1 : I a0 1 ≤ x1) => 
    b_X3_build_150  (c_X3_isWheel hl0) (
    b_X3_build_154  (fun c3' => have c3 : ¬(I a0 1 = I a0 0) := b2f c3'; 
      b_X3_build_176  (c_X3_linkBorder hl0 (v1 c1 c3) (v2 c1 c3) (v3 c1 c3)) (ev_ret2 (r1 c1 c3) (e1 c1 c3) (b_X3_build_180 ))) (fun c4' => have c4 : I a0 1 = I a0 0 := b2t c4'; 
      b_X3_build_157 (v4 c1 c4) (v5 c1 c4) (k_X3_link hl0 (v6 c1 c4) (v7 c1 c4)) (
      b_X3_build_176  (c_X3_linkBorder hl0 (v8 c1 c4) (v9 c1 c4) (v10 c1 c4)) (ev_ret2 (r2 c1 c4) (e2 c1 c4) (b_X3_build_180 )))))) (fun (c2 : x1 < I a0 1) => 
    b_X3_build_98 (v11 c2) (v12 c2) (k_X3_link hl0 (v13 c2) (v14 c2)) (
    b_X3_build_114 (v15 c2) (fun (c5 : (up1 I (a0 + 2) (lk (I (a0 + 2)) (I a0 3) (I a0 3 + 1 + x1))) a0 1 ≤ x1 + 1) => 
      b_X3_build_144 (v15 c2) ((k1 c2 c5))) (fun (c6 : x1 + 1 < (up1 I (a0 + 2) (lk (I (a0 + 2)) (I a0 3) (I a0 3 + 1 + x1))) a0 1) => 
      b_X3_build_124 (v16 c2 c6) (v17 c2 c6) (v18 c2 c6) (v19 c2 c6) (k_X3_link hl0 (v20 c2 c6) (v21 c2 c6)) (
      b_X3_build_144 (v15 c2) ((k2 c2 c6))))))
end
