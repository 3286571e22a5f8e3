noncomputable section
theorem w_X12_number_0 {d : Nat} {I : Nat → Nat → Int} {S : PS} {x1 x2 z1 : Int} {J1 J2 : Nat → Nat → Int} {v : Int} {h1 : PM} (hl0 : LyX12 S)
    (g1 : Ca (d + 2) mX12_numberHere [vR (some (22, 0, 156)), vI x1, vI x2] (I, S) (.inl (some (vI z1))) (J1, S))
    (g2 : (J1 156 3 = 0) → Ca (d + 2) mX12_goes [vR (some (22, 0, 156))] (J1, S) (.inl none) (J2, S))
    (r1 : (¬(J1 156 3 = 0)) → z1 = v := by intros; first | rfl | (exfalso; omega) | contradiction | (exfalso; simp_all; done))
    (e1 : (¬(J1 156 3 = 0)) → (J1, S) = h1 := by intros; first | rfl | (exfalso; omega) | contradiction | (exfalso; simp_all; done))
    (r2 : (J1 156 3 = 0) → z1 = v := by intros; first | rfl | (exfalso; omega) | contradiction | (exfalso; simp_all; done))
    (e2 : (J1 156 3 = 0) → (J2, S) = h1 := by intros; first | rfl | (exfalso; omega) | contradiction | (exfalso; simp_all; done)) : Ca (d + 3) mX12_number [vR (some (22, 0, 156)), vI x1, vI x2] (I, S) (.inl (some (vI v))) h1 :=
  Ca.of rfl rfl (
  b_X12_number_0  g1 (
  b_X12_number_6  (c_X12_isGood hl0) (
  b_X12_number_11  (fun c1' => have c1 : ¬(J1 156 3 = 0) := b2f c1'; ev_ret2 (r1 c1) (e1 c1) (b_X12_number_18 )) (fun c2' => have c2 : J1 156 3 = 0 := b2t c2'; 
    b_X12_number_14  (g2 c2) (ev_ret2 (r2 c2) (e2 c2) (b_X12_number_18 ))))))
theorem w_X12_need_0 {d : Nat} {I : Nat → Nat → Int} {S : PS} {b1 : Prop} {J1 J2 : Nat → Nat → Int} [Decidable b1] {h1 : PM} (hl0 : LyX12 S)
    (g1 : (I 156 3 = 0) → (¬(b1)) → Ca (d + 2) mX12_wrong [vR (some (22, 0, 156)), vI 1] (I, S) (.inl none) (J1, S))
    (g2 : (I 156 3 = 0) → (b1) → Ca (d + 2) mX12_goes [vR (some (22, 0, 156))] (I, S) (.inl none) (J2, S))
    (e1 : (I 156 3 = 0) → (¬(b1)) → (J1, S) = h1 := by intros; first | rfl | (exfalso; omega) | contradiction | (exfalso; simp_all; done))
    (e2 : (I 156 3 = 0) → (b1) → (J2, S) = h1 := by intros; first | rfl | (exfalso; omega) | contradiction | (exfalso; simp_all; done))
    (e3 : (¬(I 156 3 = 0)) → (I, S) = h1 := by intros; first | rfl | (exfalso; omega) | contradiction | (exfalso; simp_all; done)) : Ca (d + 3) mX12_need [vR (some (22, 0, 156)), vI (if b1 then (1 : Int) else 0)] (I, S) (.inl none) h1 :=
  Ca.of rfl rfl (
  b_X12_need_0  (c_X12_isGood hl0) (
  b_X12_need_4  (fun c1' => have c1 : I 156 3 = 0 := b2t c1'; 
    b_X12_need_8  (fun c3' => have c3 : ¬(b1) := b2f c3'; 
      b_X12_need_19  (g1 c1 c3) (ev_retV (e1 c1 c3) (b_X12_need_24 ))) (fun c4' => have c4 : b1 := b2t c4'; 
      b_X12_need_12  (g2 c1 c4) (
      b_X12_need_16  (ev_retV (e2 c1 c4) (b_X12_need_24 ))))) (fun c2' => have c2 : ¬(I 156 3 = 0) := b2f c2'; ev_retV (e3 c2) (b_X12_need_7 ))))
theorem w_X12_readsRange_0 {d : Nat} {I : Nat → Nat → Int} {S : PS} {x1 z1 z2 : Int} {J1 J2 : Nat → Nat → Int} {h1 : PM} (hl0 : LyX12 S)
    (g1 : Ca (d + 3) mX12_number [vR (some (22, 0, 156)), vI 3, vI 9] (I, S) (.inl (some (vI z1))) (J1, S))
    (g2 : Ca (d + 3) mX12_number [vR (some (22, 0, 156)), vI z1, vI 9] ((up2 J1 163 (x1.toNat) z1), S) (.inl (some (vI z2))) (J2, S))
    (e1 : ((up2 J2 163 ((x1 + 1).toNat) z2), S) = h1 := by intros; first | rfl | (exfalso; omega) | contradiction | (exfalso; simp_all; done))
    (v1 : 0 ≤ x1 ∧ x1 < (48 : Nat) := by intros; first | assumption | omega | (split <;> omega))
    (v2 : -2147483648 ≤ x1 + 1 ∧ x1 + 1 ≤ 2147483647 := by intros; first | assumption | omega | (split <;> omega))
    (v3 : 0 ≤ x1 + 1 ∧ x1 + 1 < (48 : Nat) := by intros; first | assumption | omega | (split <;> omega)) : Ca (d + 4) mX12_readsRange [vR (some (22, 0, 156)), vI x1] (I, S) (.inl none) h1 :=
  Ca.of rfl rfl (
  b_X12_readsRange_0  g1 (
  b_X12_readsRange_7 (ly_X12_23 hl0) v1 v2 g2 (ev_retV e1 (b_X12_readsRange_29 v3))))
abbrev L_X12_readsRule_38 (d : Nat) (a0 : Nat) (x1 : Int) (I : Nat → Nat → Int) (S : PS) (h1 : PM) : Prop := Ev (d + 5) mX12_readsRule (38, [some (vR (some (22, 0, a0))), some (vI x1), none], [], (I, S)) (.inl none, h1)
abbrev L_X12_readsRule_45 (d : Nat) (a0 : Nat) (x1 : Int) (I : Nat → Nat → Int) (S : PS) (h1 : PM) : Prop := Ev (d + 5) mX12_readsRule (45, [some (vR (some (22, 0, a0))), some (vI x1), none], [], (I, S)) (.inl none, h1)
abbrev L_X12_readsRule_62 (d : Nat) (a0 : Nat) (x1 : Int) (I : Nat → Nat → Int) (S : PS) (h1 : PM) : Prop := Ev (d + 5) mX12_readsRule (62, [some (vR (some (22, 0, a0))), some (vI x1), none], [], (I, S)) (.inl none, h1)
abbrev L_X12_readsRule_69 (d : Nat) (a0 : Nat) (x1 : Int) (I : Nat → Nat → Int) (S : PS) (h1 : PM) : Prop := Ev (d + 5) mX12_readsRule (69, [some (vR (some (22, 0, a0))), some (vI x1), none], [], (I, S)) (.inl none, h1)
abbrev L_X12_readsRule_106 (d : Nat) (a0 : Nat) (x1 : Int) (I : Nat → Nat → Int) (S : PS) (h1 : PM) : Prop := Ev (d + 5) mX12_readsRule (106, [some (vR (some (22, 0, a0))), some (vI x1), none], [], (I, S)) (.inl none, h1)
abbrev L_X12_readsRule_152 (d : Nat) (a0 : Nat) (x1 : Int) (x2 : Int) (I : Nat → Nat → Int) (S : PS) (h1 : PM) : Prop := Ev (d + 5) mX12_readsRule (152, [some (vR (some (22, 0, a0))), some (vI x1), some (vI x2)], [], (I, S)) (.inl none, h1)
theorem w_X12_readsRule_0 {d : Nat} {I : Nat → Nat → Int} {S : PS} {J1 J2 : Nat → Nat → Int} {z1 : Int} {h1 : PM} (hl0 : LyX12 S)
    (g1 : Ca (d + 4) mX12_number [vR (some (22, 0, 156)), vI 1, vI 99] (I, S) (.inl (some (vI z1))) (J1, S))
    (g2 : Ca (d + 4) mX12_need [vR (some (22, 0, 156)), vI (if (kwM (up2 J1 163 ((8 * (I 156 17)).toNat) z1)) = 3 then (1 : Int) else 0)] ((up2 J1 163 ((8 * (I 156 17)).toNat) z1), S) (.inl none) (J2, S))
    (k1 : L_X12_readsRule_38 d 156 (8 * (I 156 17)) J2 S h1)
    (v1 : -2147483648 ≤ 8 * (I 156 17) ∧ 8 * (I 156 17) ≤ 2147483647 := by intros; first | assumption | omega | (split <;> omega))
    (v2 : 0 ≤ 8 * (I 156 17) ∧ 8 * (I 156 17) < (48 : Nat) := by intros; first | assumption | omega | (split <;> omega)) : Ca (d + 5) mX12_readsRule [vR (some (22, 0, 156))] (I, S) (.inl none) h1 :=
  Ca.of rfl rfl (
  b_X12_readsRule_0 v1 (ly_X12_23 hl0) g1 (
  b_X12_readsRule_20 v2 (c_X12_knownWord hl0) (
  have K2 : ∀ us1 : Int, us1 = (if (kwM (up2 J1 163 ((8 * (I 156 17)).toNat) z1)) = 3 then (1 : Int) else 0) → Ev (d + 5) mX12_readsRule (35, [some (vR (some (22, 0, 156))), some (vI (8 * (I 156 17))), none], [vI us1, vR (some (22, 0, 156))], ((up2 J1 163 ((8 * (I 156 17)).toNat) z1), S)) (.inl none, h1) := fun us1 e_us1 => by subst e_us1; exact (
    b_X12_readsRule_35  g2 (k1))
  
  b_X12_readsRule_26  (fun (c1 : (kwM (up2 J1 163 ((8 * (I 156 17)).toNat) z1)) ≠ 3) => 
    b_X12_readsRule_34  (K2 0 (if_neg c1).symm)) (fun (c2 : (kwM (up2 J1 163 ((8 * (I 156 17)).toNat) z1)) = 3) => 
    b_X12_readsRule_30  (K2 1 (if_pos c2).symm)))))
theorem w_X12_readsRule_38 {d : Nat} {I : Nat → Nat → Int} {S : PS} {x1 : Int} {J1 : Nat → Nat → Int} {h1 : PM} (hl0 : LyX12 S)
    (g1 : Ca (d + 4) mX12_readsRange [vR (some (22, 0, 156)), vI (x1 + 1)] (I, S) (.inl none) (J1, S))
    (k1 : L_X12_readsRule_45 d 156 x1 J1 S h1)
    (v1 : -2147483648 ≤ x1 + 1 ∧ x1 + 1 ≤ 2147483647 := by intros; first | assumption | omega | (split <;> omega)) : L_X12_readsRule_38 d 156 x1 I S h1 :=
  
  b_X12_readsRule_38 v1 g1 (k1)
theorem w_X12_readsRule_45 {d : Nat} {I : Nat → Nat → Int} {S : PS} {x1 : Int} {J1 : Nat → Nat → Int} {h1 : PM} (hl0 : LyX12 S)
    (g1 : Ca (d + 4) mX12_need [vR (some (22, 0, 156)), vI (if (kwM I) = 4 then (1 : Int) else 0)] (I, S) (.inl none) (J1, S))
    (k1 : L_X12_readsRule_62 d 156 x1 J1 S h1) : L_X12_readsRule_45 d 156 x1 I S h1 :=
  
  b_X12_readsRule_45  (c_X12_knownWord hl0) (
  have K2 : ∀ us1 : Int, us1 = (if (kwM I) = 4 then (1 : Int) else 0) → Ev (d + 5) mX12_readsRule (59, [some (vR (some (22, 0, 156))), some (vI x1), none], [vI us1, vR (some (22, 0, 156))], (I, S)) (.inl none, h1) := fun us1 e_us1 => by subst e_us1; exact (
    b_X12_readsRule_59  g1 (k1))
  
  b_X12_readsRule_50  (fun (c1 : (kwM I) ≠ 4) => 
    b_X12_readsRule_58  (K2 0 (if_neg c1).symm)) (fun (c2 : (kwM I) = 4) => 
    b_X12_readsRule_54  (K2 1 (if_pos c2).symm)))
theorem w_X12_readsRule_62 {d : Nat} {I : Nat → Nat → Int} {S : PS} {x1 : Int} {J1 : Nat → Nat → Int} {h1 : PM} (hl0 : LyX12 S)
    (g1 : Ca (d + 4) mX12_readsRange [vR (some (22, 0, 156)), vI (x1 + 3)] (I, S) (.inl none) (J1, S))
    (k1 : L_X12_readsRule_69 d 156 x1 J1 S h1)
    (v1 : -2147483648 ≤ x1 + 3 ∧ x1 + 3 ≤ 2147483647 := by intros; first | assumption | omega | (split <;> omega)) : L_X12_readsRule_62 d 156 x1 I S h1 :=
  
  b_X12_readsRule_62 v1 g1 (k1)
theorem w_X12_readsRule_69 {d : Nat} {I : Nat → Nat → Int} {S : PS} {x1 : Int} {h1 : PM} (hl0 : LyX12 S)
    (k1 : (I 156 3 = 0) → L_X12_readsRule_106 d 156 x1 (up2 (up2 (up2 I 163 ((x1 + 5).toNat) 0) 163 ((x1 + 6).toNat) 0) 163 ((x1 + 7).toNat) 0) S h1)
    (e1 : (¬(I 156 3 = 0)) → ((up2 (up2 (up2 I 163 ((x1 + 5).toNat) 0) 163 ((x1 + 6).toNat) 0) 163 ((x1 + 7).toNat) 0), S) = h1 := by intros; first | rfl | (exfalso; omega) | contradiction | (exfalso; simp_all; done))
    (v1 : -2147483648 ≤ x1 + 5 ∧ x1 + 5 ≤ 2147483647 := by intros; first | assumption | omega | (split <;> omega))
    (v2 : 0 ≤ x1 + 5 ∧ x1 + 5 < (48 : Nat) := by intros; first | assumption | omega | (split <;> omega))
    (v3 : -2147483648 ≤ x1 + 6 ∧ x1 + 6 ≤ 2147483647 := by intros; first | assumption | omega | (split <;> omega))
    (v4 : 0 ≤ x1 + 6 ∧ x1 + 6 < (48 : Nat) := by intros; first | assumption | omega | (split <;> omega))
    (v5 : -2147483648 ≤ x1 + 7 ∧ x1 + 7 ≤ 2147483647 := by intros; first | assumption | omega | (split <;> omega))
    (v6 : 0 ≤ x1 + 7 ∧ x1 + 7 < (48 : Nat) := by intros; first | assumption | omega | (split <;> omega)) : L_X12_readsRule_69 d 156 x1 I S h1 :=
  
  b_X12_readsRule_69 (ly_X12_23 hl0) v1 v2 v3 v4 v5 v6 (c_X12_isGood hl0) (
  b_X12_readsRule_102  (fun c1' => have c1 : I 156 3 = 0 := b2t c1'; (k1 c1)) (fun c2' => have c2 : ¬(I 156 3 = 0) := b2f c2'; ev_retV (e1 c2) (b_X12_readsRule_105 )))
theorem w_X12_readsRule_106 {d : Nat} {I : Nat → Nat → Int} {S : PS} {x1 : Int} {J1 J2 J3 J4 : Nat → Nat → Int} {h1 : PM} (hl0 : LyX12 S)
    (g1 : ((kwM I) = 5) → Ca (d + 4) mX12_goes [vR (some (22, 0, 156))] ((up2 I 163 ((x1 + 7).toNat) (if (kwM I) ≠ 5 then (2 : Int) else 1)), S) (.inl none) (J1, S))
    (g2 : ((kwM I) = 5) → Ca (d + 4) mX12_readsRange [vR (some (22, 0, 156)), vI (x1 + 5)] (J1, S) (.inl none) (J2, S))
    (k1 : ((kwM I) = 5) → L_X12_readsRule_152 d 156 x1 (kwM I) J2 S h1)
    (k2 : ((kwM I) ≠ 5) → ((kwM I) ≠ 6) → L_X12_readsRule_152 d 156 x1 (kwM I) I S h1)
    (g3 : ((kwM I) ≠ 5) → ((kwM I) = 6) → Ca (d + 4) mX12_goes [vR (some (22, 0, 156))] ((up2 I 163 ((x1 + 7).toNat) (if (kwM I) ≠ 5 then (2 : Int) else 1)), S) (.inl none) (J3, S))
    (g4 : ((kwM I) ≠ 5) → ((kwM I) = 6) → Ca (d + 4) mX12_readsRange [vR (some (22, 0, 156)), vI (x1 + 5)] (J3, S) (.inl none) (J4, S))
    (k3 : ((kwM I) ≠ 5) → ((kwM I) = 6) → L_X12_readsRule_152 d 156 x1 (kwM I) J4 S h1)
    (v1 : ((kwM I) = 5) → -2147483648 ≤ x1 + 7 ∧ x1 + 7 ≤ 2147483647 := by intros; first | assumption | omega | (split <;> omega))
    (v2 : ((kwM I) = 5) → 0 ≤ x1 + 7 ∧ x1 + 7 < (48 : Nat) := by intros; first | assumption | omega | (split <;> omega))
    (v3 : ((kwM I) = 5) → -2147483648 ≤ x1 + 5 ∧ x1 + 5 ≤ 2147483647 := by intros; first | assumption | omega | (split <;> omega))
    (v4 : ((kwM I) ≠ 5) → ((kwM I) = 6) → -2147483648 ≤ x1 + 7 ∧ x1 + 7 ≤ 2147483647 := by intros; first | assumption | omega | (split <;> omega))
    (v5 : ((kwM I) ≠ 5) → ((kwM I) = 6) → 0 ≤ x1 + 7 ∧ x1 + 7 < (48 : Nat) := by intros; first | assumption | omega | (split <;> omega))
    (v6 : ((kwM I) ≠ 5) → ((kwM I) = 6) → -2147483648 ≤ x1 + 5 ∧ x1 + 5 ≤ 2147483647 := by intros; first | assumption | omega | (split <;> omega)) : L_X12_readsRule_106 d 156 x1 I S h1 :=
  
  b_X12_readsRule_106  (c_X12_knownWord hl0) (
  b_X12_readsRule_110  (fun (c1 : (kwM I) = 5) => 
    have K4 : ∀ us2 : Int, us2 = (if (kwM I) ≠ 5 then (2 : Int) else 1) → Ev (d + 5) mX12_readsRule (140, [some (vR (some (22, 0, 156))), some (vI x1), some (vI (kwM I))], [vI us2, vI (x1 + 7), vR (some (0, 48, 163))], (I, S)) (.inl none, h1) := fun us2 e_us2 => by subst e_us2; exact (
      b_X12_readsRule_140 (v2 c1) (g1 c1) (
      b_X12_readsRule_145 (v3 c1) (g2 c1) ((k1 c1))))
    
    b_X12_readsRule_122 (ly_X12_23 hl0) (v1 c1) (fun (c3 : (kwM I) ≠ 5) => 
      b_X12_readsRule_139  (K4 2 ((if_pos c3).symm))) (fun (c4 : (kwM I) = 5) => 
      b_X12_readsRule_135  (K4 1 ((if_neg (fun q => q c4)).symm)))) (fun (c2 : (kwM I) ≠ 5) => 
    b_X12_readsRule_116  (fun (c6 : (kwM I) ≠ 6) => (k2 c2 c6)) (fun (c7 : (kwM I) = 6) => 
      have K9 : ∀ us2 : Int, us2 = (if (kwM I) ≠ 5 then (2 : Int) else 1) → Ev (d + 5) mX12_readsRule (140, [some (vR (some (22, 0, 156))), some (vI x1), some (vI (kwM I))], [vI us2, vI (x1 + 7), vR (some (0, 48, 163))], (I, S)) (.inl none, h1) := fun us2 e_us2 => by subst e_us2; exact (
        b_X12_readsRule_140 (v5 c2 c7) (g3 c2 c7) (
        b_X12_readsRule_145 (v6 c2 c7) (g4 c2 c7) ((k3 c2 c7))))
      
      b_X12_readsRule_122 (ly_X12_23 hl0) (v4 c2 c7) (fun (c8 : (kwM I) ≠ 5) => 
        b_X12_readsRule_139  (K9 2 ((if_pos c8).symm))) (fun (c9 : (kwM I) = 5) => 
        b_X12_readsRule_135  (K9 1 ((if_neg (fun q => q c9)).symm))))))
theorem w_X12_readsRule_152 {d : Nat} {I : Nat → Nat → Int} {S : PS} {x1 x2 : Int} {h1 : PM} (hl0 : LyX12 S)
    (e1 : (¬(I 156 3 = 0)) → (I, S) = h1 := by intros; first | rfl | (exfalso; omega) | contradiction | (exfalso; simp_all; done))
    (e2 : (I 156 3 = 0) → ((up2 I 156 17 (I 156 17 + 1)), S) = h1 := by intros; first | rfl | (exfalso; omega) | contradiction | (exfalso; simp_all; done))
    (v1 : (I 156 3 = 0) → -2147483648 ≤ I 156 17 + 1 ∧ I 156 17 + 1 ≤ 2147483647 := by intros; first | assumption | omega | (split <;> omega)) : L_X12_readsRule_152 d 156 x1 x2 I S h1 :=
  
  b_X12_readsRule_152  (c_X12_isGood hl0) (
  b_X12_readsRule_156  (fun c1' => have c1 : ¬(I 156 3 = 0) := b2f c1'; ev_retV (e1 c1) (b_X12_readsRule_169 )) (fun c2' => have c2 : I 156 3 = 0 := b2t c2'; 
    b_X12_readsRule_159 (v1 c2) (ev_retV (e2 c2) (b_X12_readsRule_169 ))))
theorem w_X5_readRange_0 {d : Nat} {I : Nat → Nat → Int} {S : PS} {a1 : Nat} {x2 z1 z3 : Int} {J1 J2 J3 J4 : Nat → Nat → Int} {v : Int} {h1 : PM} (hl0 : LyX10 S) (hl1 : LyX7 S a1)
    (g1 : Ca (d + 3) mX5_readNumber [vR (some (20, 0, 32)), vI 3, vI 9] (I, S) (.inl (some (vI z1))) (J1, S))
    (g2 : (z1 = 0) → Ca (d + 3) mX7_tell [vR (some (17, 0, a1)), vI x2, vI (J1 32 5)] (J1, S) (.inl none) (J2, S))
    (g3 : (z1 = 0) → Ca (d + 3) mX5_readNumber [vR (some (20, 0, 32)), vI (J1 32 5), vI 9] (J2, S) (.inl (some (vI z3))) (J3, S))
    (g4 : (z1 = 0) → Ca (d + 3) mX7_tell [vR (some (17, 0, a1)), vI (x2 + 1), vI (J3 32 5)] (J3, S) (.inl none) (J4, S))
    (r1 : (z1 = 0) → z3 = v := by intros; first | rfl | (exfalso; omega) | contradiction | (exfalso; simp_all; done))
    (e1 : (z1 = 0) → (J4, S) = h1 := by intros; first | rfl | (exfalso; omega) | contradiction | (exfalso; simp_all; done))
    (r2 : (z1 ≠ 0) → z1 = v := by intros; first | rfl | (exfalso; omega) | contradiction | (exfalso; simp_all; done))
    (e2 : (z1 ≠ 0) → (J1, S) = h1 := by intros; first | rfl | (exfalso; omega) | contradiction | (exfalso; simp_all; done))
    (v1 : (z1 = 0) → -2147483648 ≤ x2 + 1 ∧ x2 + 1 ≤ 2147483647 := by intros; first | assumption | omega | (split <;> omega)) : Ca (d + 4) mX5_readRange [vR (some (20, 0, 32)), vR (some (17, 0, a1)), vI x2] (I, S) (.inl (some (vI v))) h1 :=
  Ca.of rfl rfl (
  b_X5_readRange_0  g1 (
  b_X5_readRange_7  (fun (c1 : z1 = 0) => 
    b_X5_readRange_14  (g2 c1) (
    b_X5_readRange_27  (g3 c1) (
    b_X5_readRange_35 (v1 c1) (g4 c1) (ev_ret2 (r1 c1) (e1 c1) (b_X5_readRange_47 ))))) (fun (c2 : z1 ≠ 0) => ev_ret2 (r2 c2) (e2 c2) (b_X5_readRange_12 ))))
abbrev L_X5_readRule_38 (d : Nat) (a0 : Nat) (a1 : Nat) (a2 : Nat) (x3 : Int) (I : Nat → Nat → Int) (S : PS) (v : Int) (h1 : PM) : Prop := Ev (d + 5) mX5_readRule (38, [some (vR (some (20, 0, a0))), some (vR (some (11, 0, a1))), some (vR (some (17, 0, a2))), some (vI x3), none], [], (I, S)) (.inl (some (vI v)), h1)
abbrev L_X5_readRule_68 (d : Nat) (a0 : Nat) (a1 : Nat) (a2 : Nat) (x3 : Int) (I : Nat → Nat → Int) (S : PS) (v : Int) (h1 : PM) : Prop := Ev (d + 5) mX5_readRule (68, [some (vR (some (20, 0, a0))), some (vR (some (11, 0, a1))), some (vR (some (17, 0, a2))), some (vI x3), none], [], (I, S)) (.inl (some (vI v)), h1)
abbrev L_X5_readRule_98 (d : Nat) (a0 : Nat) (a1 : Nat) (a2 : Nat) (x3 : Int) (I : Nat → Nat → Int) (S : PS) (v : Int) (h1 : PM) : Prop := Ev (d + 5) mX5_readRule (98, [some (vR (some (20, 0, a0))), some (vR (some (11, 0, a1))), some (vR (some (17, 0, a2))), some (vI x3), none], [], (I, S)) (.inl (some (vI v)), h1)
abbrev L_X5_readRule_136 (d : Nat) (a0 : Nat) (a1 : Nat) (a2 : Nat) (x3 : Int) (x4 : Int) (I : Nat → Nat → Int) (S : PS) (v : Int) (h1 : PM) : Prop := Ev (d + 5) mX5_readRule (136, [some (vR (some (20, 0, a0))), some (vR (some (11, 0, a1))), some (vR (some (17, 0, a2))), some (vI x3), some (vI x4)], [], (I, S)) (.inl (some (vI v)), h1)
abbrev L_X5_readRule_161 (d : Nat) (a0 : Nat) (a1 : Nat) (a2 : Nat) (x3 : Int) (x4 : Int) (I : Nat → Nat → Int) (S : PS) (v : Int) (h1 : PM) : Prop := Ev (d + 5) mX5_readRule (161, [some (vR (some (20, 0, a0))), some (vR (some (11, 0, a1))), some (vR (some (17, 0, a2))), some (vI x3), some (vI x4)], [], (I, S)) (.inl (some (vI v)), h1)
theorem w_X5_readRule_0 {d : Nat} {I : Nat → Nat → Int} {S : PS} {a1 : Nat} {J1 J2 : Nat → Nat → Int} {z1 : Int} {v : Int} {h1 : PM} (hl0 : LyX10 S) (hl1 : LyX0 S a1)
    (g1 : (I (a1 + 2) 0 < 6) → Ca (d + 4) mX5_readNumber [vR (some (20, 0, 32)), vI 1, vI 99] (I, S) (.inl (some (vI z1))) (J1, S))
    (g2 : (I (a1 + 2) 0 < 6) → (z1 = 0) → Ca (d + 4) mX7_begin [vR (some (17, 0, (a1 + 2))), vI (J1 32 5)] (J1, S) (.inl none) (J2, S))
    (k1 : (I (a1 + 2) 0 < 6) → (z1 = 0) → L_X5_readRule_38 d 32 a1 (a1 + 2) z1 J2 S v h1)
    (r1 : (I (a1 + 2) 0 < 6) → (z1 ≠ 0) → z1 = v)
    (e1 : (I (a1 + 2) 0 < 6) → (z1 ≠ 0) → (J1, S) = h1 := by intros; first | rfl | (exfalso; omega) | contradiction | (exfalso; simp_all; done))
    (r2 : (6 ≤ I (a1 + 2) 0) → 2 = v)
    (e2 : (6 ≤ I (a1 + 2) 0) → (I, S) = h1 := by intros; first | rfl | (exfalso; omega) | contradiction | (exfalso; simp_all; done)) : Ca (d + 5) mX5_readRule [vR (some (20, 0, 32)), vR (some (11, 0, a1))] (I, S) (.inl (some (vI v))) h1 :=
  Ca.of rfl rfl (
  b_X5_readRule_0 (ly_X0_2 hl1) (fun (c1 : I (a1 + 2) 0 < 6) => 
    b_X5_readRule_16  (g1 c1) (
    b_X5_readRule_23  (fun (c3 : z1 = 0) => 
      b_X5_readRule_30  (g2 c1 c3) ((k1 c1 c3))) (fun (c4 : z1 ≠ 0) => ev_ret2 (r1 c1 c4) (e1 c1 c4) (b_X5_readRule_28 )))) (fun (c2 : 6 ≤ I (a1 + 2) 0) => ev_ret2 (r2 c2) (e2 c2) (b_X5_readRule_14 )))
theorem w_X5_readRule_38 {d : Nat} {I : Nat → Nat → Int} {S : PS} {a1 a2 : Nat} {x3 z2 : Int} {J1 J2 : Nat → Nat → Int} {v : Int} {h1 : PM} (hl0 : LyX10 S) (hl1 : LyX0 S a1) (hl2 : LyX7 S a2)
    (g1 : Ca (d + 4) mX10_advance [vR (some (20, 0, 32))] (I, S) (.inl none) (J1, S))
    (g2 : (iwC J1 4 12 = true) → Ca (d + 4) mX5_readRange [vR (some (20, 0, 32)), vR (some (17, 0, a2)), vI 1] (J1, S) (.inl (some (vI z2))) (J2, S))
    (k1 : (iwC J1 4 12 = true) → (z2 = 0) → L_X5_readRule_68 d 32 a1 a2 z2 J2 S v h1)
    (r1 : (¬(iwC J1 4 12 = true)) → 1 = v)
    (e1 : (¬(iwC J1 4 12 = true)) → (J1, S) = h1 := by intros; first | rfl | (exfalso; omega) | contradiction | (exfalso; simp_all; done))
    (r2 : (iwC J1 4 12 = true) → (z2 ≠ 0) → z2 = v)
    (e2 : (iwC J1 4 12 = true) → (z2 ≠ 0) → (J2, S) = h1 := by intros; first | rfl | (exfalso; omega) | contradiction | (exfalso; simp_all; done))
    (v1 : strs J1 S := by intros; first | assumption | omega | (split <;> omega))
    (v2 : 0 ≤ J1 32 4 ∧ J1 32 4 ≤ 700 ∧ 0 ≤ J1 32 2 ∧ J1 32 2 ≤ 700 := by intros; first | assumption | omega | (split <;> omega)) : L_X5_readRule_38 d 32 a1 a2 x3 I S v h1 :=
  
  b_X5_readRule_38  g1 (
  b_X5_readRule_42  (c_X10_isWord hl0 v1 (by decide) v2) (
  b_X5_readRule_48  (fun c1' => have c1 : ¬(iwC J1 4 12 = true) := b2f c1'; 
    b_X5_readRule_60  (
    b_X5_readRule_61  (fun c => absurd c (by decide)) (fun _ => ev_ret2 (r1 c1) (e1 c1) (b_X5_readRule_66 )))) (fun c2' => have c2 : iwC J1 4 12 = true := b2t c2'; 
    b_X5_readRule_51  (g2 c2) (
    b_X5_readRule_57  (
    b_X5_readRule_61  (fun (c3 : z2 = 0) => (k1 c2 c3)) (fun (c4 : z2 ≠ 0) => ev_ret2 (r2 c2 c4) (e2 c2 c4) (b_X5_readRule_66 )))))))
theorem w_X5_readRule_68 {d : Nat} {I : Nat → Nat → Int} {S : PS} {a1 a2 : Nat} {x3 z2 : Int} {J1 J2 : Nat → Nat → Int} {v : Int} {h1 : PM} (hl0 : LyX10 S) (hl1 : LyX0 S a1) (hl2 : LyX7 S a2)
    (g1 : Ca (d + 4) mX10_advance [vR (some (20, 0, 32))] (I, S) (.inl none) (J1, S))
    (g2 : (iwC J1 2 14 = true) → Ca (d + 4) mX5_readRange [vR (some (20, 0, 32)), vR (some (17, 0, a2)), vI 3] (J1, S) (.inl (some (vI z2))) (J2, S))
    (k1 : (iwC J1 2 14 = true) → (z2 = 0) → L_X5_readRule_98 d 32 a1 a2 z2 J2 S v h1)
    (r1 : (¬(iwC J1 2 14 = true)) → 1 = v)
    (e1 : (¬(iwC J1 2 14 = true)) → (J1, S) = h1 := by intros; first | rfl | (exfalso; omega) | contradiction | (exfalso; simp_all; done))
    (r2 : (iwC J1 2 14 = true) → (z2 ≠ 0) → z2 = v)
    (e2 : (iwC J1 2 14 = true) → (z2 ≠ 0) → (J2, S) = h1 := by intros; first | rfl | (exfalso; omega) | contradiction | (exfalso; simp_all; done))
    (v1 : strs J1 S := by intros; first | assumption | omega | (split <;> omega))
    (v2 : 0 ≤ J1 32 4 ∧ J1 32 4 ≤ 700 ∧ 0 ≤ J1 32 2 ∧ J1 32 2 ≤ 700 := by intros; first | assumption | omega | (split <;> omega)) : L_X5_readRule_68 d 32 a1 a2 x3 I S v h1 :=
  
  b_X5_readRule_68  g1 (
  b_X5_readRule_72  (c_X10_isWord hl0 v1 (by decide) v2) (
  b_X5_readRule_78  (fun c1' => have c1 : ¬(iwC J1 2 14 = true) := b2f c1'; 
    b_X5_readRule_90  (
    b_X5_readRule_91  (fun c => absurd c (by decide)) (fun _ => ev_ret2 (r1 c1) (e1 c1) (b_X5_readRule_96 )))) (fun c2' => have c2 : iwC J1 2 14 = true := b2t c2'; 
    b_X5_readRule_81  (g2 c2) (
    b_X5_readRule_87  (
    b_X5_readRule_91  (fun (c3 : z2 = 0) => (k1 c2 c3)) (fun (c4 : z2 ≠ 0) => ev_ret2 (r2 c2 c4) (e2 c2 c4) (b_X5_readRule_96 )))))))
theorem w_X5_readRule_98 {d : Nat} {I : Nat → Nat → Int} {S : PS} {a1 a2 : Nat} {x3 : Int} {J1 : Nat → Nat → Int} {v : Int} {h1 : PM} (hl0 : LyX10 S) (hl1 : LyX0 S a1) (hl2 : LyX7 S a2)
    (g1 : Ca (d + 4) mX10_advance [vR (some (20, 0, 32))] (I, S) (.inl none) (J1, S))
    (k1 : ((if ¬(iwC J1 4 16 = true) then ((if ¬(iwC J1 4 18 = true) then (0 : Int) else 2) : Int) else 1) = 0) → L_X5_readRule_161 d 32 a1 a2 x3 (if ¬(iwC J1 4 16 = true) then ((if ¬(iwC J1 4 18 = true) then (0 : Int) else 2) : Int) else 1) J1 S v h1)
    (k2 : ((if ¬(iwC J1 4 16 = true) then ((if ¬(iwC J1 4 18 = true) then (0 : Int) else 2) : Int) else 1) ≠ 0) → L_X5_readRule_136 d 32 a1 a2 x3 (if ¬(iwC J1 4 16 = true) then ((if ¬(iwC J1 4 18 = true) then (0 : Int) else 2) : Int) else 1) J1 S v h1)
    (v1 : strs J1 S := by intros; first | assumption | omega | (split <;> omega))
    (v2 : 0 ≤ J1 32 4 ∧ J1 32 4 ≤ 700 ∧ 0 ≤ J1 32 2 ∧ J1 32 2 ≤ 700 := by intros; first | assumption | omega | (split <;> omega)) : L_X5_readRule_98 d 32 a1 a2 x3 I S v h1 :=
  
  b_X5_readRule_98  g1 (
  b_X5_readRule_102  (c_X10_isWord hl0 v1 (by decide) v2) (
  have K4 : ∀ us0 : Int, us0 = (if ¬(iwC J1 4 16 = true) then ((if ¬(iwC J1 4 18 = true) then (0 : Int) else 2) : Int) else 1) → Ev (d + 5) mX5_readRule (129, [some (vR (some (20, 0, 32))), some (vR (some (11, 0, a1))), some (vR (some (17, 0, a2))), some (vI x3), none], [vI us0], (J1, S)) (.inl (some (vI v)), h1) := fun us0 e_us0 => by subst e_us0; exact (
    b_X5_readRule_129  (fun (c6 : (if ¬(iwC J1 4 16 = true) then ((if ¬(iwC J1 4 18 = true) then (0 : Int) else 2) : Int) else 1) = 0) => (k1 c6)) (fun (c7 : (if ¬(iwC J1 4 16 = true) then ((if ¬(iwC J1 4 18 = true) then (0 : Int) else 2) : Int) else 1) ≠ 0) => (k2 c7)))
  
  b_X5_readRule_108  (fun c1' => have c1 : ¬(iwC J1 4 16 = true) := b2f c1'; 
    b_X5_readRule_115  (c_X10_isWord hl0 v1 (by decide) v2) (
    b_X5_readRule_121  (fun c3' => have c3 : ¬(iwC J1 4 18 = true) := b2f c3'; 
      b_X5_readRule_128  (K4 0 ((if_pos c3).symm.trans (if_pos c1).symm))) (fun c4' => have c4 : iwC J1 4 18 = true := b2t c4'; 
      b_X5_readRule_124  (K4 2 ((if_neg (fun q => q c4)).symm.trans (if_pos c1).symm))))) (fun c2' => have c2 : iwC J1 4 16 = true := b2t c2'; 
    b_X5_readRule_111  (K4 1 ((if_neg (fun q => q c2)).symm)))))
theorem w_X5_readRule_136 {d : Nat} {I : Nat → Nat → Int} {S : PS} {a1 a2 : Nat} {x3 x4 z2 : Int} {J1 J2 J3 : Nat → Nat → Int} {v : Int} {h1 : PM} (hl0 : LyX10 S) (hl1 : LyX0 S a1) (hl2 : LyX7 S a2)
    (g1 : Ca (d + 4) mX7_tell [vR (some (17, 0, a2)), vI 7, vI x4] (I, S) (.inl none) (J1, S))
    (g2 : Ca (d + 4) mX5_readRange [vR (some (20, 0, 32)), vR (some (17, 0, a2)), vI 5] (J1, S) (.inl (some (vI z2))) (J2, S))
    (g3 : (z2 = 0) → Ca (d + 4) mX10_advance [vR (some (20, 0, 32))] (J2, S) (.inl none) (J3, S))
    (k1 : (z2 = 0) → L_X5_readRule_161 d 32 a1 a2 z2 x4 J3 S v h1)
    (r1 : (z2 ≠ 0) → z2 = v)
    (e1 : (z2 ≠ 0) → (J2, S) = h1 := by intros; first | rfl | (exfalso; omega) | contradiction | (exfalso; simp_all; done)) : L_X5_readRule_136 d 32 a1 a2 x3 x4 I S v h1 :=
  
  b_X5_readRule_136  g1 (
  b_X5_readRule_144  g2 (
  b_X5_readRule_150  (fun (c1 : z2 = 0) => 
    b_X5_readRule_157  (g3 c1) ((k1 c1))) (fun (c2 : z2 ≠ 0) => ev_ret2 (r1 c2) (e1 c2) (b_X5_readRule_155 ))))
theorem w_X5_readRule_161 {d : Nat} {I : Nat → Nat → Int} {S : PS} {a1 a2 : Nat} {x3 x4 z1 : Int} {J1 : Nat → Nat → Int} {v : Int} {h1 : PM} (hl0 : LyX10 S) (hl1 : LyX0 S a1) (hl2 : LyX7 S a2)
    (g1 : (I 32 3 = 3) → Ca (d + 4) mX7_keepRule [vR (some (17, 0, a2))] (I, S) (.inl (some (vI z1))) (J1, S))
    (r1 : (I 32 3 ≠ 3) → 1 = v)
    (e1 : (I 32 3 ≠ 3) → (I, S) = h1 := by intros; first | rfl | (exfalso; omega) | contradiction | (exfalso; simp_all; done))
    (r2 : (I 32 3 = 3) → z1 = v)
    (e2 : (I 32 3 = 3) → (J1, S) = h1 := by intros; first | rfl | (exfalso; omega) | contradiction | (exfalso; simp_all; done)) : L_X5_readRule_161 d 32 a1 a2 x3 x4 I S v h1 :=
  
  b_X5_readRule_161  (fun (c1 : I 32 3 ≠ 3) => 
    b_X5_readRule_176  (ev_ret2 (r1 c1) (e1 c1) (b_X5_readRule_177 ))) (fun (c2 : I 32 3 = 3) => 
    b_X5_readRule_169  (g1 c2) (
    b_X5_readRule_173  (ev_ret2 (r2 c2) (e2 c2) (b_X5_readRule_177 ))))
end
