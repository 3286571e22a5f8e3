noncomputable section
abbrev L_X12_laysPiece_15 (d : Nat) (a0 : Nat) (x1 : Int) (x2 : Int) (x3 : Int) (x4 : Int) (I : Nat → Nat → Int) (S : PS) (h1 : PM) : Prop := Ev (d + 7) mX12_laysPiece (15, [some (vR (some (22, 0, a0))), some (vI x1), some (vI x2), some (vI x3), some (vI x4), none, none], [], (I, S)) (.inl none, h1)
abbrev L_X12_laysPiece_94 (d : Nat) (a0 : Nat) (x1 : Int) (x2 : Int) (x3 : Int) (x4 : Int) (I : Nat → Nat → Int) (S : PS) (h1 : PM) : Prop := Ev (d + 7) mX12_laysPiece (94, [some (vR (some (22, 0, a0))), some (vI x1), some (vI x2), some (vI x3), some (vI x4), none, none], [], (I, S)) (.inl none, h1)
abbrev L_X12_laysPiece_215 (d : Nat) (a0 : Nat) (x1 : Int) (x2 : Int) (x3 : Int) (x4 : Int) (x5 : Int) (I : Nat → Nat → Int) (S : PS) (h1 : PM) : Prop := Ev (d + 7) mX12_laysPiece (215, [some (vR (some (22, 0, a0))), some (vI x1), some (vI x2), some (vI x3), some (vI x4), some (vI x5), none], [], (I, S)) (.inl none, h1)
abbrev L_X12_laysPiece_226 (d : Nat) (a0 : Nat) (x1 : Int) (x2 : Int) (x3 : Int) (x4 : Int) (x5 : Int) (x6 : Int) (I : Nat → Nat → Int) (S : PS) (h1 : PM) : Prop := Ev (d + 7) mX12_laysPiece (226, [some (vR (some (22, 0, a0))), some (vI x1), some (vI x2), some (vI x3), some (vI x4), some (vI x5), some (vI x6)], [], (I, S)) (.inl none, h1)
theorem w_X12_laysPiece_0 {d : Nat} {I : Nat → Nat → Int} {S : PS} {x1 : Int} {h1 : PM} (hl0 : LyX12 S)
    (k1 : L_X12_laysPiece_15 d 156 x1 0 (p_shl 1 (2 * (I 159 ((20 * x1) + 9).toNat))) 0 I S h1)
    (v1 : 0 ≤ x1 ∧ x1 < 4 := by intros; first | assumption | omega | (split <;> omega))
    (v2 : -2147483648 ≤ 2 * (I 159 ((20 * x1) + 9).toNat) ∧ 2 * (I 159 ((20 * x1) + 9).toNat) ≤ 2147483647 := by intros; first | assumption | omega | (split <;> omega)) : Ca (d + 7) mX12_laysPiece [vR (some (22, 0, 156)), vI x1] (I, S) (.inl none) h1 :=
  Ca.of rfl rfl (
  b_X12_laysPiece_0  (c_X12_ring hl0 v1) (
  b_X12_laysPiece_9 v2 (k1)))
theorem w_X12_laysPiece_15 {d : Nat} {I : Nat → Nat → Int} {S : PS} {x1 x2 x3 x4 : Int} {h1 : PM} (hl0 : LyX12 S)
    (k1 : (x3 ≤ x4) → L_X12_laysPiece_94 d 156 x1 x2 x3 0 (up2 I 167 (x1.toNat) x2) S h1)
    (k2 : (x4 < x3) → (¬(isPr (I 159 ((20 * x1) + 9).toNat) x4 = true)) → L_X12_laysPiece_15 d 156 x1 x2 x3 (x4 + 1) (up2 I 172 (x4.toNat) (-1)) S h1)
    (k3 : (x4 < x3) → (isPr (I 159 ((20 * x1) + 9).toNat) x4 = true) → ((nmS (I 159 ((20 * x1) + 9).toNat) x4 (I 159 ((20 * x1) + 9).toNat).toNat).1 = x4) → L_X12_laysPiece_15 d 156 x1 (x2 + 1) x3 (x4 + 1) (up2 (up2 (nmI (up2 I 172 (x4.toNat) (-1)) (I 159 ((20 * x1) + 9).toNat) x4) 172 (x4.toNat) x2) 168 (((96 * x1) + x2).toNat) x4) S h1)
    (k4 : (x4 < x3) → (isPr (I 159 ((20 * x1) + 9).toNat) x4 = true) → ((nmS (I 159 ((20 * x1) + 9).toNat) x4 (I 159 ((20 * x1) + 9).toNat).toNat).1 ≠ x4) → L_X12_laysPiece_15 d 156 x1 x2 x3 (x4 + 1) (nmI (up2 I 172 (x4.toNat) (-1)) (I 159 ((20 * x1) + 9).toNat) x4) S h1)
    (v1 : (x3 ≤ x4) → 0 ≤ x1 ∧ x1 < (4 : Nat) := by intros; first | assumption | omega | (split <;> omega))
    (v2 : (x4 < x3) → 0 ≤ x4 ∧ x4 < (16384 : Nat) := by intros; first | assumption | omega | (split <;> omega))
    (v3 : (x4 < x3) → 0 ≤ x1 ∧ x1 < 4 := by intros; first | assumption | omega | (split <;> omega))
    (v4 : (x4 < x3) → 1 ≤ I 159 ((20 * x1) + 9).toNat ∧ I 159 ((20 * x1) + 9).toNat ≤ 7 := by intros; first | assumption | omega | (split <;> omega))
    (v5 : (x4 < x3) → (¬(isPr (I 159 ((20 * x1) + 9).toNat) x4 = true)) → -2147483648 ≤ x4 + 1 ∧ x4 + 1 ≤ 2147483647 := by intros; first | assumption | omega | (split <;> omega))
    (v6 : (x4 < x3) → (isPr (I 159 ((20 * x1) + 9).toNat) x4 = true) → 0 ≤ I 159 ((20 * x1) + 9).toNat ∧ I 159 ((20 * x1) + 9).toNat ≤ 7 := by intros; first | assumption | omega | (split <;> omega))
    (v7 : (x4 < x3) → (isPr (I 159 ((20 * x1) + 9).toNat) x4 = true) → ((nmS (I 159 ((20 * x1) + 9).toNat) x4 (I 159 ((20 * x1) + 9).toNat).toNat).1 = x4) → -2147483648 ≤ 96 * x1 ∧ 96 * x1 ≤ 2147483647 := by intros; first | assumption | omega | (split <;> omega))
    (v8 : (x4 < x3) → (isPr (I 159 ((20 * x1) + 9).toNat) x4 = true) → ((nmS (I 159 ((20 * x1) + 9).toNat) x4 (I 159 ((20 * x1) + 9).toNat).toNat).1 = x4) → -2147483648 ≤ (96 * x1) + x2 ∧ (96 * x1) + x2 ≤ 2147483647 := by intros; first | assumption | omega | (split <;> omega))
    (v9 : (x4 < x3) → (isPr (I 159 ((20 * x1) + 9).toNat) x4 = true) → ((nmS (I 159 ((20 * x1) + 9).toNat) x4 (I 159 ((20 * x1) + 9).toNat).toNat).1 = x4) → 0 ≤ (96 * x1) + x2 ∧ (96 * x1) + x2 < (384 : Nat) := by intros; first | assumption | omega | (split <;> omega))
    (v10 : (x4 < x3) → (isPr (I 159 ((20 * x1) + 9).toNat) x4 = true) → ((nmS (I 159 ((20 * x1) + 9).toNat) x4 (I 159 ((20 * x1) + 9).toNat).toNat).1 = x4) → -2147483648 ≤ x2 + 1 ∧ x2 + 1 ≤ 2147483647 := by intros; first | assumption | omega | (split <;> omega))
    (v11 : (x4 < x3) → (isPr (I 159 ((20 * x1) + 9).toNat) x4 = true) → ((nmS (I 159 ((20 * x1) + 9).toNat) x4 (I 159 ((20 * x1) + 9).toNat).toNat).1 = x4) → -2147483648 ≤ x4 + 1 ∧ x4 + 1 ≤ 2147483647 := by intros; first | assumption | omega | (split <;> omega))
    (v12 : (x4 < x3) → (isPr (I 159 ((20 * x1) + 9).toNat) x4 = true) → ((nmS (I 159 ((20 * x1) + 9).toNat) x4 (I 159 ((20 * x1) + 9).toNat).toNat).1 ≠ x4) → -2147483648 ≤ x4 + 1 ∧ x4 + 1 ≤ 2147483647 := by intros; first | assumption | omega | (split <;> omega)) : L_X12_laysPiece_15 d 156 x1 x2 x3 x4 I S h1 :=
  
  b_X12_laysPiece_15  (fun (c1 : x3 ≤ x4) => 
    b_X12_laysPiece_84 (ly_X12_27 hl0) (v1 c1) ((k1 c1))) (fun (c2 : x4 < x3) => 
    b_X12_laysPiece_21 (ly_X12_32 hl0) (v2 c2) (c_X12_isProper hl0 (v3 c2) (v4 c2)) (
    b_X12_laysPiece_36  (fun c3' => have c3 : ¬(isPr (I 159 ((20 * x1) + 9).toNat) x4 = true) := b2f c3'; 
      b_X12_laysPiece_78 (v5 c2 c3) ((k2 c2 c3))) (fun c4' => have c4 : isPr (I 159 ((20 * x1) + 9).toNat) x4 = true := b2t c4'; 
      b_X12_laysPiece_39  (c_X12_named0 hl0 (v3 c2) (v6 c2 c4)) (
      b_X12_laysPiece_46  (fun (c5 : (nmS (I 159 ((20 * x1) + 9).toNat) x4 (I 159 ((20 * x1) + 9).toNat).toNat).1 = x4) => 
        b_X12_laysPiece_54 (ly_X12_32 hl0) (v2 c2) (ly_X12_28 hl0) (v7 c2 c4 c5) (v8 c2 c4 c5) (v9 c2 c4 c5) (v10 c2 c4 c5) (
        b_X12_laysPiece_78 (v11 c2 c4 c5) ((k3 c2 c4 c5)))) (fun (c6 : (nmS (I 159 ((20 * x1) + 9).toNat) x4 (I 159 ((20 * x1) + 9).toNat).toNat).1 ≠ x4) => 
        b_X12_laysPiece_51  (
        b_X12_laysPiece_78 (v12 c2 c4 c6) ((k4 c2 c4 c6))))))))
theorem w_X12_laysPiece_94 {d : Nat} {I : Nat → Nat → Int} {S : PS} {x1 x2 x3 x4 : Int} {J1 J2 : Nat → Nat → Int} {z1 z2 : Bool} {h1 : PM} (hl0 : LyX12 S)
    (k1 : (x2 ≤ x4) → L_X12_laysPiece_215 d 156 x1 x2 x3 1 1 I S h1)
    (g1 : (x4 < x2) → Ca (d + 6) mX12_doesExtend [vR (some (22, 0, 156)), vI x1, vI (I 168 ((96 * x1) + x4).toNat), vI 0] (I, S) (.inl (some (vI (if z1 = true then (1 : Int) else 0)))) (J1, S))
    (k2 : (x4 < x2) → (J1 159 ((20 * x1) + 10).toNat ≤ 0) → L_X12_laysPiece_94 d 156 x1 x2 x3 (x4 + 1) (up2 (up2 (up2 J1 169 (((96 * x1) + x4).toNat) (if z1 = true then (1 : Int) else 0)) 170 (((96 * x1) + x4).toNat) 0) 171 (((96 * x1) + x4).toNat) (if (up2 J1 169 (((96 * x1) + x4).toNat) (if z1 = true then (1 : Int) else 0)) 169 ((96 * x1) + x4).toNat ≠ 1 then ((-1) : Int) else 0)) S h1)
    (g2 : (x4 < x2) → (0 < J1 159 ((20 * x1) + 10).toNat) → Ca (d + 6) mX12_doesExtend [vR (some (22, 0, 156)), vI x1, vI (J1 168 ((96 * x1) + x4).toNat), vI 1] ((up2 J1 169 (((96 * x1) + x4).toNat) (if z1 = true then (1 : Int) else 0)), S) (.inl (some (vI (if z2 = true then (1 : Int) else 0)))) (J2, S))
    (k3 : (x4 < x2) → (0 < J1 159 ((20 * x1) + 10).toNat) → L_X12_laysPiece_94 d 156 x1 x2 x3 (x4 + 1) (up2 (up2 J2 170 (((96 * x1) + x4).toNat) (if z2 = true then (1 : Int) else 0)) 171 (((96 * x1) + x4).toNat) (if J2 169 ((96 * x1) + x4).toNat ≠ 1 then ((-1) : Int) else 0)) S h1)
    (v1 : (x4 < x2) → -2147483648 ≤ 96 * x1 ∧ 96 * x1 ≤ 2147483647 := by intros; first | assumption | omega | (split <;> omega))
    (v2 : (x4 < x2) → -2147483648 ≤ (96 * x1) + x4 ∧ (96 * x1) + x4 ≤ 2147483647 := by intros; first | assumption | omega | (split <;> omega))
    (v3 : (x4 < x2) → 0 ≤ (96 * x1) + x4 ∧ (96 * x1) + x4 < (384 : Nat) := by intros; first | assumption | omega | (split <;> omega))
    (v4 : (x4 < x2) → -2147483648 ≤ 20 * x1 ∧ 20 * x1 ≤ 2147483647 := by intros; first | assumption | omega | (split <;> omega))
    (v5 : (x4 < x2) → -2147483648 ≤ (20 * x1) + 10 ∧ (20 * x1) + 10 ≤ 2147483647 := by intros; first | assumption | omega | (split <;> omega))
    (v6 : (x4 < x2) → 0 ≤ (20 * x1) + 10 ∧ (20 * x1) + 10 < (80 : Nat) := by intros; first | assumption | omega | (split <;> omega))
    (v7 : (x4 < x2) → (J1 159 ((20 * x1) + 10).toNat ≤ 0) → -2147483648 ≤ x4 + 1 ∧ x4 + 1 ≤ 2147483647 := by intros; first | assumption | omega | (split <;> omega))
    (v8 : (x4 < x2) → (0 < J1 159 ((20 * x1) + 10).toNat) → -2147483648 ≤ x4 + 1 ∧ x4 + 1 ≤ 2147483647 := by intros; first | assumption | omega | (split <;> omega)) : L_X12_laysPiece_94 d 156 x1 x2 x3 x4 I S h1 :=
  
  b_X12_laysPiece_94  (fun (c1 : x2 ≤ x4) => 
    b_X12_laysPiece_209  ((k1 c1))) (fun (c2 : x4 < x2) => 
    b_X12_laysPiece_100 (v1 c2) (v2 c2) (ly_X12_29 hl0) (ly_X12_28 hl0) (v3 c2) (g1 c2) (
    have K4 : ∀ us2 : Int, us2 = (if z1 = true then (1 : Int) else 0) → Ev (d + 7) mX12_laysPiece (136, [some (vR (some (22, 0, 156))), some (vI x1), some (vI x2), some (vI x3), some (vI x4), some (vI ((96 * x1) + x4)), none], [vI us2, vI ((96 * x1) + x4), vR (some (0, 384, 169))], (J1, S)) (.inl none, h1) := fun us2 e_us2 => by subst e_us2; exact (
      b_X12_laysPiece_136 (v3 c2) (ly_X12_30 hl0) (ly_X12_19 hl0) (v4 c2) (v5 c2) (v6 c2) (fun (c6 : J1 159 ((20 * x1) + 10).toNat ≤ 0) => 
        b_X12_laysPiece_178  (
        have K9 : ∀ us2 : Int, us2 = (if (up2 J1 169 (((96 * x1) + x4).toNat) (if z1 = true then (1 : Int) else 0)) 169 ((96 * x1) + x4).toNat ≠ 1 then ((-1) : Int) else 0) → Ev (d + 7) mX12_laysPiece (202, [some (vR (some (22, 0, 156))), some (vI x1), some (vI x2), some (vI x3), some (vI x4), some (vI ((96 * x1) + x4)), none], [vI us2, vI ((96 * x1) + x4), vR (some (0, 384, 171))], ((up2 (up2 J1 169 (((96 * x1) + x4).toNat) (if z1 = true then (1 : Int) else 0)) 170 (((96 * x1) + x4).toNat) 0), S)) (.inl none, h1) := fun us2 e_us2 => by subst e_us2; exact (
          b_X12_laysPiece_202 (v3 c2) (v7 c2 c6) ((k2 c2 c6)))
        
        b_X12_laysPiece_179 (v3 c2) (ly_X12_31 hl0) (ly_X12_29 hl0) (v3 c2) (fun (c8 : (up2 J1 169 (((96 * x1) + x4).toNat) (if z1 = true then (1 : Int) else 0)) 169 ((96 * x1) + x4).toNat ≠ 1) => 
          b_X12_laysPiece_201  (K9 (-1) ((if_pos c8).symm))) (fun (c9 : (up2 J1 169 (((96 * x1) + x4).toNat) (if z1 = true then (1 : Int) else 0)) 169 ((96 * x1) + x4).toNat = 1) => 
          b_X12_laysPiece_197  (K9 0 ((if_neg (fun q => q c9)).symm))))) (fun (c7 : 0 < J1 159 ((20 * x1) + 10).toNat) => 
        b_X12_laysPiece_158 (ly_X12_28 hl0) (v3 c2) (g2 c2 c7) (
        have K12 : ∀ us2 : Int, us2 = (if z2 = true then (1 : Int) else 0) → Ev (d + 7) mX12_laysPiece (179, [some (vR (some (22, 0, 156))), some (vI x1), some (vI x2), some (vI x3), some (vI x4), some (vI ((96 * x1) + x4)), none], [vI us2, vI ((96 * x1) + x4), vR (some (0, 384, 170))], (J2, S)) (.inl none, h1) := fun us2 e_us2 => by subst e_us2; exact (
          have K15 : ∀ us2 : Int, us2 = (if J2 169 ((96 * x1) + x4).toNat ≠ 1 then ((-1) : Int) else 0) → Ev (d + 7) mX12_laysPiece (202, [some (vR (some (22, 0, 156))), some (vI x1), some (vI x2), some (vI x3), some (vI x4), some (vI ((96 * x1) + x4)), none], [vI us2, vI ((96 * x1) + x4), vR (some (0, 384, 171))], ((up2 J2 170 (((96 * x1) + x4).toNat) (if z2 = true then (1 : Int) else 0)), S)) (.inl none, h1) := fun us2 e_us2 => by subst e_us2; exact (
            b_X12_laysPiece_202 (v3 c2) (v8 c2 c7) ((k3 c2 c7)))
          
          b_X12_laysPiece_179 (v3 c2) (ly_X12_31 hl0) (ly_X12_29 hl0) (v3 c2) (fun (c14 : J2 169 ((96 * x1) + x4).toNat ≠ 1) => 
            b_X12_laysPiece_201  (K15 (-1) ((if_pos c14).symm))) (fun (c15 : J2 169 ((96 * x1) + x4).toNat = 1) => 
            b_X12_laysPiece_197  (K15 0 ((if_neg (fun q => q c15)).symm))))
        
        b_X12_laysPiece_171  (fun c11' => have c11 : ¬(z2 = true) := b2f c11'; 
          b_X12_laysPiece_178  (K12 0 (if_neg c11).symm)) (fun c12' => have c12 : z2 = true := b2t c12'; 
          b_X12_laysPiece_174  (K12 1 (if_pos c12).symm)))))
    
    b_X12_laysPiece_128  (fun c3' => have c3 : ¬(z1 = true) := b2f c3'; 
      b_X12_laysPiece_135  (K4 0 (if_neg c3).symm)) (fun c4' => have c4 : z1 = true := b2t c4'; 
      b_X12_laysPiece_131  (K4 1 (if_pos c4).symm))))
theorem w_X12_laysPiece_215 {d : Nat} {I : Nat → Nat → Int} {S : PS} {x1 x2 x3 x4 x5 : Int} {h1 : PM} (hl0 : LyX12 S)
    (k1 : (x4 ≠ 0) → L_X12_laysPiece_226 d 156 x1 x2 x3 0 x5 0 I S h1)
    (e1 : (x4 = 0) → (I, S) = h1 := by intros; first | rfl | (exfalso; omega) | contradiction | (exfalso; simp_all; done)) : L_X12_laysPiece_215 d 156 x1 x2 x3 x4 x5 I S h1 :=
  
  b_X12_laysPiece_215  (fun (c1 : x4 = 0) => ev_retV (e1 c1) (b_X12_laysPiece_292 )) (fun (c2 : x4 ≠ 0) => 
    b_X12_laysPiece_220  ((k1 c2)))
theorem w_X12_laysPiece_226 {d : Nat} {I : Nat → Nat → Int} {S : PS} {x1 x2 x3 x4 x5 x6 : Int} {J1 : Nat → Nat → Int} {z1 : Bool} {h1 : PM} (hl0 : LyX12 S)
    (k1 : (x2 ≤ x6) → L_X12_laysPiece_215 d 156 x1 x2 x3 x4 (x5 + 1) I S h1)
    (k2 : (x6 < x2) → (I 171 ((96 * x1) + x6).toNat ≠ (-1)) → L_X12_laysPiece_226 d 156 x1 x2 x3 x4 x5 (x6 + 1) I S h1)
    (g1 : (x6 < x2) → (I 171 ((96 * x1) + x6).toNat = (-1)) → Ca (d + 6) mX12_isLed [vR (some (22, 0, 156)), vI x1, vI x6, vI x5] (I, S) (.inl (some (vI (if z1 = true then (1 : Int) else 0)))) (J1, S))
    (k3 : (x6 < x2) → (I 171 ((96 * x1) + x6).toNat = (-1)) → (z1 = true) → L_X12_laysPiece_226 d 156 x1 x2 x3 1 x5 (x6 + 1) (up2 J1 171 (((96 * x1) + x6).toNat) x5) S h1)
    (k4 : (x6 < x2) → (I 171 ((96 * x1) + x6).toNat = (-1)) → (¬(z1 = true)) → L_X12_laysPiece_226 d 156 x1 x2 x3 x4 x5 (x6 + 1) J1 S h1)
    (v1 : (x2 ≤ x6) → -2147483648 ≤ x5 + 1 ∧ x5 + 1 ≤ 2147483647 := by intros; first | assumption | omega | (split <;> omega))
    (v2 : (x6 < x2) → -2147483648 ≤ 96 * x1 ∧ 96 * x1 ≤ 2147483647 := by intros; first | assumption | omega | (split <;> omega))
    (v3 : (x6 < x2) → -2147483648 ≤ (96 * x1) + x6 ∧ (96 * x1) + x6 ≤ 2147483647 := by intros; first | assumption | omega | (split <;> omega))
    (v4 : (x6 < x2) → 0 ≤ (96 * x1) + x6 ∧ (96 * x1) + x6 < (384 : Nat) := by intros; first | assumption | omega | (split <;> omega))
    (v5 : (x6 < x2) → (I 171 ((96 * x1) + x6).toNat ≠ (-1)) → -2147483648 ≤ x6 + 1 ∧ x6 + 1 ≤ 2147483647 := by intros; first | assumption | omega | (split <;> omega))
    (v6 : (x6 < x2) → (I 171 ((96 * x1) + x6).toNat = (-1)) → (z1 = true) → -2147483648 ≤ x6 + 1 ∧ x6 + 1 ≤ 2147483647 := by intros; first | assumption | omega | (split <;> omega))
    (v7 : (x6 < x2) → (I 171 ((96 * x1) + x6).toNat = (-1)) → (¬(z1 = true)) → -2147483648 ≤ x6 + 1 ∧ x6 + 1 ≤ 2147483647 := by intros; first | assumption | omega | (split <;> omega)) : L_X12_laysPiece_226 d 156 x1 x2 x3 x4 x5 x6 I S h1 :=
  
  b_X12_laysPiece_226  (fun (c1 : x2 ≤ x6) => 
    b_X12_laysPiece_286 (v1 c1) ((k1 c1))) (fun (c2 : x6 < x2) => 
    b_X12_laysPiece_232 (ly_X12_31 hl0) (v2 c2) (v3 c2) (v4 c2) (fun (c3 : I 171 ((96 * x1) + x6).toNat ≠ (-1)) => 
      b_X12_laysPiece_280 (v5 c2 c3) ((k2 c2 c3))) (fun (c4 : I 171 ((96 * x1) + x6).toNat = (-1)) => 
      b_X12_laysPiece_248  (g1 c2 c4) (
      b_X12_laysPiece_257  (fun c5' => have c5 : z1 = true := b2t c5'; 
        b_X12_laysPiece_263 (ly_X12_31 hl0) (v2 c2) (v3 c2) (v4 c2) (
        b_X12_laysPiece_280 (v6 c2 c4 c5) ((k3 c2 c4 c5)))) (fun c6' => have c6 : ¬(z1 = true) := b2f c6'; 
        b_X12_laysPiece_260  (
        b_X12_laysPiece_280 (v7 c2 c4 c6) ((k4 c2 c4 c6)))))))
abbrev L_X6_tabulate_47 (d : Nat) (a0 : Nat) (x1 : Int) (x2 : Int) (x3 : Int) (x4 : Int) (x5 : Int) (x6 : Int) (I : Nat → Nat → Int) (S : PS) (h1 : PM) : Prop := Ev (d + 1) mX6_tabulate (47, [some (vR (some (16, 0, a0))), some (vI x1), some (vI x2), some (vI x3), some (vI x4), some (vI x5), some (vI x6)], [], (I, S)) (.inl none, h1)
theorem w_X6_tabulate_0 {d : Nat} {I : Nat → Nat → Int} {S : PS} {a0 : Nat} {x1 x2 : Int} {h1 : PM} (hl0 : LyX6 S a0)
    (k1 : L_X6_tabulate_47 d a0 x1 x2 (rnC (I a0 0) (I (a0 + 1) x1.toNat) x2) ((x1 * 3) + x2) (if (rnC (I a0 0) (I (a0 + 1) x1.toNat) x2) ≤ 2 then (1 : Int) else p_shl 1 ((rnC (I a0 0) (I (a0 + 1) x1.toNat) x2) - 2)) 0 (up2 (spI I a0 (I a0 0) (I (a0 + 1) x1.toNat) x2) (a0 + 3) (((x1 * 3) + x2).toNat) (p_i2b (p_i2b (rnC (I a0 0) (I (a0 + 1) x1.toNat) x2)))) S h1)
    (v1 : 0 ≤ x1 ∧ x1 < (91 : Nat) := by intros; first | assumption | omega | (split <;> omega))
    (v2 : 1 ≤ I a0 0 ∧ I a0 0 ≤ 7 := by intros; first | assumption | omega | (split <;> omega))
    (v3 : cAt (I a0 0) (I (a0 + 1) x1.toNat) 0 = 0 := by intros; first | assumption | omega | (split <;> omega))
    (v4 : 0 ≤ x2 ∧ x2 ≤ 2 := by intros; first | assumption | omega | (split <;> omega))
    (v5 : -2147483648 ≤ x1 * 3 ∧ x1 * 3 ≤ 2147483647 := by intros; first | assumption | omega | (split <;> omega))
    (v6 : -2147483648 ≤ (x1 * 3) + x2 ∧ (x1 * 3) + x2 ≤ 2147483647 := by intros; first | assumption | omega | (split <;> omega))
    (v7 : 0 ≤ (x1 * 3) + x2 ∧ (x1 * 3) + x2 < ((3 * rc S a0) : Nat) := by intros; first | assumption | omega | (split <;> omega))
    (v8 : (2 < (rnC (I a0 0) (I (a0 + 1) x1.toNat) x2)) → -2147483648 ≤ (rnC (I a0 0) (I (a0 + 1) x1.toNat) x2) - 2 ∧ (rnC (I a0 0) (I (a0 + 1) x1.toNat) x2) - 2 ≤ 2147483647 := by intros; first | assumption | omega | (split <;> omega)) : Ca (d + 1) mX6_tabulate [vR (some (16, 0, a0)), vI x1, vI x2] (I, S) (.inl none) h1 :=
  Ca.of rfl rfl (
  b_X6_tabulate_0 (ly_X6_2 hl0) v1 (c_X6_split hl0 v2 v3 v4) (
  have K2 : ∀ us0 : Int, us0 = (if (rnC (I a0 0) (I (a0 + 1) x1.toNat) x2) ≤ 2 then (1 : Int) else p_shl 1 ((rnC (I a0 0) (I (a0 + 1) x1.toNat) x2) - 2)) → Ev (d + 1) mX6_tabulate (42, [some (vR (some (16, 0, a0))), some (vI x1), some (vI x2), some (vI (rnC (I a0 0) (I (a0 + 1) x1.toNat) x2)), some (vI ((x1 * 3) + x2)), none, none], [vI us0], ((up2 (spI I a0 (I a0 0) (I (a0 + 1) x1.toNat) x2) (a0 + 3) (((x1 * 3) + x2).toNat) (p_i2b (p_i2b (rnC (I a0 0) (I (a0 + 1) x1.toNat) x2)))), S)) (.inl none, h1) := fun us0 e_us0 => by subst e_us0; exact (
    b_X6_tabulate_42  (k1))
  
  b_X6_tabulate_11 v5 v6 (ly_X6_4 hl0) v7 (fun (c1 : (rnC (I a0 0) (I (a0 + 1) x1.toNat) x2) ≤ 2) => 
    b_X6_tabulate_41  (K2 1 ((if_pos c1).symm))) (fun (c2 : 2 < (rnC (I a0 0) (I (a0 + 1) x1.toNat) x2)) => 
    b_X6_tabulate_33 (v8 c2) (K2 (p_shl 1 ((rnC (I a0 0) (I (a0 + 1) x1.toNat) x2) - 2)) ((if_neg (Int.not_le.mpr c2)).symm)))))
theorem w_X6_tabulate_47 {d : Nat} {I : Nat → Nat → Int} {S : PS} {a0 : Nat} {x1 x2 x3 x4 x5 x6 : Int} {h1 : PM} (hl0 : LyX6 S a0)
    (k1 : (x6 < x5) → (x6 < 16) → L_X6_tabulate_47 d a0 x1 x2 x3 x4 x5 (x6 + 1) (up2 I (a0 + 4) (((x4 * 16) + x6).toNat) (p_i2b (p_i2b (fstB (fun k => decide (I (a0 + 1) k = ((rnS (I a0 0) (tnS (I a0 0) (I (a0 + 1) x1.toNat) x2 (p_shl x6 2) (I (a0 + 2)) (I a0 0).toNat) (I a0 0).toNat).2.2.2))) (I a0 1).toNat)))) S h1)
    (e1 : (x5 ≤ x6) → (I, S) = h1 := by intros; first | rfl | (exfalso; omega) | contradiction | (exfalso; simp_all; done))
    (e2 : (x6 < x5) → (16 ≤ x6) → (I, S) = h1 := by intros; first | rfl | (exfalso; omega) | contradiction | (exfalso; simp_all; done))
    (v1 : (x6 < x5) → (x6 < 16) → -2147483648 ≤ x4 * 16 ∧ x4 * 16 ≤ 2147483647 := by intros; first | assumption | omega | (split <;> omega))
    (v2 : (x6 < x5) → (x6 < 16) → -2147483648 ≤ (x4 * 16) + x6 ∧ (x4 * 16) + x6 ≤ 2147483647 := by intros; first | assumption | omega | (split <;> omega))
    (v3 : (x6 < x5) → (x6 < 16) → 0 ≤ x1 ∧ x1 < (91 : Nat) := by intros; first | assumption | omega | (split <;> omega))
    (v4 : (x6 < x5) → (x6 < 16) → 0 ≤ I a0 0 ∧ I a0 0 ≤ 7 := by intros; first | assumption | omega | (split <;> omega))
    (v5 : (x6 < x5) → (x6 < 16) → 0 ≤ x2 ∧ x2 ≤ 2 := by intros; first | assumption | omega | (split <;> omega))
    (v6 : (x6 < x5) → (x6 < 16) → 0 ≤ I a0 1 ∧ I a0 1 ≤ 91 := by intros; first | assumption | omega | (split <;> omega))
    (v7 : (x6 < x5) → (x6 < 16) → ∀ i j : Nat, i < j → (j : Int) < I a0 1 → I (a0 + 1) i < I (a0 + 1) j := by intros; first | assumption | omega | (split <;> omega))
    (v8 : (x6 < x5) → (x6 < 16) → 0 ≤ (x4 * 16) + x6 ∧ (x4 * 16) + x6 < ((48 * rc S a0) : Nat) := by intros; first | assumption | omega | (split <;> omega))
    (v9 : (x6 < x5) → (x6 < 16) → -2147483648 ≤ x6 + 1 ∧ x6 + 1 ≤ 2147483647 := by intros; first | assumption | omega | (split <;> omega)) : L_X6_tabulate_47 d a0 x1 x2 x3 x4 x5 x6 I S h1 :=
  
  b_X6_tabulate_47  (fun (c1 : x5 ≤ x6) => ev_retV (e1 c1) (b_X6_tabulate_104 )) (fun (c2 : x6 < x5) => 
    b_X6_tabulate_54  (fun (c3 : 16 ≤ x6) => ev_retV (e2 c2 c3) (b_X6_tabulate_104 )) (fun (c4 : x6 < 16) => 
      b_X6_tabulate_61 (ly_X6_5 hl0) (v1 c2 c4) (v2 c2 c4) (ly_X6_2 hl0) (v3 c2 c4) (c_X6_turned hl0 (v4 c2 c4) (v5 c2 c4)) (
      b_X6_tabulate_90  (c_X6_renamed hl0 (v4 c2 c4)) (
      b_X6_tabulate_93  (c_X6_find hl0 (v6 c2 c4) (v7 c2 c4)) (
      b_X6_tabulate_96 (v8 c2 c4) (v9 c2 c4) ((k1 c2 c4)))))))
abbrev L_X3_fillRing_11 (d : Nat) (a0 : Nat) (a1 : Nat) (x2 : Int) (x3 : Int) (x4 : Int) (I : Nat → Nat → Int) (S : PS) (v : Int) (h1 : PM) : Prop := Ev (d + 20) mX3_fillRing (11, [some (vR (some (14, 0, a0))), some (vR (some (16, 0, a1))), some (vI x2), some (vI x3), some (vI x4)], [], (I, S)) (.inl (some (vI v)), h1)
theorem w_X3_fillRing_0 {d : Nat} {I : Nat → Nat → Int} {S : PS} {a0 a1 : Nat} {x2 : Int} {b3 : Prop} [Decidable b3] {v : Int} {h1 : PM} (hl0 : LyX3 S a0) (hl1 : LyX6 S a1)
    (k1 : L_X3_fillRing_11 d a0 a1 x2 (if b3 then (1 : Int) else 0) 0 (up1 I (a0 + 4) (upTo (I (a0 + 4)) (fun _ => 0) 0 4)) S v h1) : Ca (d + 20) mX3_fillRing [vR (some (14, 0, a0)), vR (some (16, 0, a1)), vI x2, vI (if b3 then (1 : Int) else 0)] (I, S) (.inl (some (vI v))) h1 :=
  Ca.of rfl rfl (
  b_X3_fillRing_0 (ly_X3_8 hl0) (c_J7_fill_53178 (by decide)) (
  b_X3_fillRing_8  (k1)))
theorem w_X3_fillRing_11 {d : Nat} {I : Nat → Nat → Int} {S : PS} {a0 a1 : Nat} {x2 x4 : Int} {b3 : Prop} {J1 : Nat → Nat → Int} {z1 : Bool} [Decidable b3] {v : Int} {h1 : PM} (hl0 : LyX3 S a0) (hl1 : LyX6 S a1)
    (g1 : (I a0 3 ≤ x4) → Ca (d + 19) mX3_fillFrom [vR (some (14, 0, a0)), vI (I a0 3), vI (if b3 then (1 : Int) else 0)] (I, S) (.inl (some (vI (if z1 = true then (1 : Int) else 0)))) (J1, S))
    (k1 : (x4 < I a0 3) → L_X3_fillRing_11 d a0 a1 x2 (if b3 then (1 : Int) else 0) (x4 + 1) (up2 I (a0 + 4) ((p_and (p_shr x2 (2 * (I a1 0 - 1 - x4))) 3).toNat) (p_or (I (a0 + 4) (p_and (p_shr x2 (2 * (I a1 0 - 1 - x4))) 3).toNat) (p_shl 1 x4))) S v h1)
    (r1 : (I a0 3 ≤ x4) → (if z1 = true then (1 : Int) else 0) = v)
    (e1 : (I a0 3 ≤ x4) → (J1, S) = h1 := by intros; first | rfl | (exfalso; omega) | contradiction | (exfalso; simp_all; done))
    (v1 : (x4 < I a0 3) → -2147483648 ≤ I a1 0 - 1 ∧ I a1 0 - 1 ≤ 2147483647 := by intros; first | assumption | omega | (split <;> omega))
    (v2 : (x4 < I a0 3) → -2147483648 ≤ I a1 0 - 1 - x4 ∧ I a1 0 - 1 - x4 ≤ 2147483647 := by intros; first | assumption | omega | (split <;> omega))
    (v3 : (x4 < I a0 3) → -2147483648 ≤ 2 * (I a1 0 - 1 - x4) ∧ 2 * (I a1 0 - 1 - x4) ≤ 2147483647 := by intros; first | assumption | omega | (split <;> omega))
    (v4 : (x4 < I a0 3) → 0 ≤ p_and (p_shr x2 (2 * (I a1 0 - 1 - x4))) 3 ∧ p_and (p_shr x2 (2 * (I a1 0 - 1 - x4))) 3 < (4 : Nat) := by intros; first | assumption | omega | (split <;> omega))
    (v5 : (x4 < I a0 3) → -2147483648 ≤ x4 + 1 ∧ x4 + 1 ≤ 2147483647 := by intros; first | assumption | omega | (split <;> omega)) : L_X3_fillRing_11 d a0 a1 x2 (if b3 then (1 : Int) else 0) x4 I S v h1 :=
  
  b_X3_fillRing_11  (fun (c1 : I a0 3 ≤ x4) => 
    b_X3_fillRing_45  (g1 c1) (ev_ret2 (r1 c1) (e1 c1) (b_X3_fillRing_54 (ite01 _)))) (fun (c2 : x4 < I a0 3) => 
    b_X3_fillRing_20 (ly_X3_8 hl0) (c_X6_colourAt hl1 (v1 c2) (v2 c2) (v3 c2)) (
    b_X3_fillRing_31 (v4 c2) (v4 c2) (v5 c2) ((k1 c2))))
abbrev L_X3_firstExtension_15 (d : Nat) (a0 : Nat) (a1 : Nat) (x2 : Int) (x3 : Int) (x4 : Int) (I : Nat → Nat → Int) (S : PS) (v : Int) (h1 : PM) : Prop := Ev (d + 21) mX3_firstExtension (15, [some (vR (some (14, 0, a0))), some (vR (some (16, 0, a1))), some (vI x2), some (vI x3), some (vI x4)], [], (I, S)) (.inl (some (vI v)), h1)
theorem w_X3_firstExtension_0 {d : Nat} {I : Nat → Nat → Int} {S : PS} {a0 a1 : Nat} {x2 x3 : Int} {J1 : Nat → Nat → Int} {z1 : Bool} {v : Int} {h1 : PM} (hl0 : LyX3 S a0) (hl1 : LyX6 S a1)
    (g1 : Ca (d + 20) mX3_fillRing [vR (some (14, 0, a0)), vR (some (16, 0, a1)), vI x2, vI 0] (I, S) (.inl (some (vI (if z1 = true then (1 : Int) else 0)))) (J1, S))
    (k1 : (z1 = true) → L_X3_firstExtension_15 d a0 a1 x2 x3 0 J1 S v h1)
    (r1 : (¬(z1 = true)) → (-1) = v)
    (e1 : (¬(z1 = true)) → (J1, S) = h1 := by intros; first | rfl | (exfalso; omega) | contradiction | (exfalso; simp_all; done)) : Ca (d + 21) mX3_firstExtension [vR (some (14, 0, a0)), vR (some (16, 0, a1)), vI x2, vI x3] (I, S) (.inl (some (vI v))) h1 :=
  Ca.of rfl rfl (
  b_X3_firstExtension_0  g1 (
  b_X3_firstExtension_7  (fun c1' => have c1 : z1 = true := b2t c1'; 
    b_X3_firstExtension_12  ((k1 c1))) (fun c2' => have c2 : ¬(z1 = true) := b2f c2'; ev_ret2 (r1 c2) (e1 c2) (b_X3_firstExtension_10 ))))
theorem w_X3_firstExtension_15 {d : Nat} {I : Nat → Nat → Int} {S : PS} {a0 a1 : Nat} {x2 x3 x4 : Int} {v : Int} {h1 : PM} (hl0 : LyX3 S a0) (hl1 : LyX6 S a1)
    (k1 : (x4 < 4) → (p_and (p_shr (I (a0 + 4) x4.toNat) (I a0 3 + x3)) 1 = 0) → L_X3_firstExtension_15 d a0 a1 x2 x3 (x4 + 1) I S v h1)
    (r1 : (4 ≤ x4) → (-1) = v)
    (e1 : (4 ≤ x4) → (I, S) = h1 := by intros; first | rfl | (exfalso; omega) | contradiction | (exfalso; simp_all; done))
    (r2 : (x4 < 4) → (p_and (p_shr (I (a0 + 4) x4.toNat) (I a0 3 + x3)) 1 ≠ 0) → x4 = v)
    (e2 : (x4 < 4) → (p_and (p_shr (I (a0 + 4) x4.toNat) (I a0 3 + x3)) 1 ≠ 0) → (I, S) = h1 := by intros; first | rfl | (exfalso; omega) | contradiction | (exfalso; simp_all; done))
    (v1 : (x4 < 4) → 0 ≤ x4 ∧ x4 < (4 : Nat) := by intros; first | assumption | omega | (split <;> omega))
    (v2 : (x4 < 4) → -2147483648 ≤ I a0 3 + x3 ∧ I a0 3 + x3 ≤ 2147483647 := by intros; first | assumption | omega | (split <;> omega))
    (v3 : (x4 < 4) → (p_and (p_shr (I (a0 + 4) x4.toNat) (I a0 3 + x3)) 1 = 0) → -2147483648 ≤ x4 + 1 ∧ x4 + 1 ≤ 2147483647 := by intros; first | assumption | omega | (split <;> omega)) : L_X3_firstExtension_15 d a0 a1 x2 x3 x4 I S v h1 :=
  
  b_X3_firstExtension_15  (fun (c1 : 4 ≤ x4) => ev_ret2 (r1 c1) (e1 c1) (b_X3_firstExtension_49 )) (fun (c2 : x4 < 4) => 
    b_X3_firstExtension_21 (ly_X3_8 hl0) (v1 c2) (v2 c2) (fun (c3 : p_and (p_shr (I (a0 + 4) x4.toNat) (I a0 3 + x3)) 1 = 0) => 
      b_X3_firstExtension_43 (v3 c2 c3) ((k1 c2 c3))) (fun (c4 : p_and (p_shr (I (a0 + 4) x4.toNat) (I a0 3 + x3)) 1 ≠ 0) => ev_ret2 (r2 c2 c4) (e2 c2 c4) (b_X3_firstExtension_40 )))
abbrev L_X3_study_26 (d : Nat) (a0 : Nat) (a1 : Nat) (x2 : Int) (I : Nat → Nat → Int) (S : PS) (h1 : PM) : Prop := Ev (d + 22) mX3_study (26, [some (vR (some (14, 0, a0))), some (vR (some (16, 0, a1))), some (vI x2), none], [], (I, S)) (.inl none, h1)
abbrev L_X3_study_118 (d : Nat) (a0 : Nat) (a1 : Nat) (x2 : Int) (I : Nat → Nat → Int) (S : PS) (h1 : PM) : Prop := Ev (d + 22) mX3_study (118, [some (vR (some (14, 0, a0))), some (vR (some (16, 0, a1))), some (vI x2), none], [], (I, S)) (.inl none, h1)
abbrev L_X3_study_148 (d : Nat) (a0 : Nat) (a1 : Nat) (x2 : Int) (I : Nat → Nat → Int) (S : PS) (h1 : PM) : Prop := Ev (d + 22) mX3_study (148, [some (vR (some (14, 0, a0))), some (vR (some (16, 0, a1))), some (vI x2), none], [], (I, S)) (.inl none, h1)
theorem w_X3_study_0 {d : Nat} {I : Nat → Nat → Int} {S : PS} {a0 a1 : Nat} {h1 : PM} (hl0 : LyX3 S a0) (hl1 : LyX6 S a1)
    (k1 : L_X3_study_26 d a0 a1 0 (up1 (up1 (up1 I (a0 + 6) (upTo (I (a0 + 6)) (fun _ => 0) 0 3)) (a0 + 7) (upTo ((up1 I (a0 + 6) (upTo (I (a0 + 6)) (fun _ => 0) 0 3)) (a0 + 7)) (fun _ => 0) 0 3)) (a0 + 8) (upTo ((up1 (up1 I (a0 + 6) (upTo (I (a0 + 6)) (fun _ => 0) 0 3)) (a0 + 7) (upTo ((up1 I (a0 + 6) (upTo (I (a0 + 6)) (fun _ => 0) 0 3)) (a0 + 7)) (fun _ => 0) 0 3)) (a0 + 8)) (fun _ => 0) 0 3)) S h1) : Ca (d + 22) mX3_study [vR (some (14, 0, a0)), vR (some (16, 0, a1))] (I, S) (.inl none) h1 :=
  Ca.of rfl rfl (
  b_X3_study_0 (ly_X3_11 hl0) (c_J7_fill_53178 (by decide)) (
  b_X3_study_8 (ly_X3_12 hl0) (c_J7_fill_53178 (by decide)) (
  b_X3_study_16 (ly_X3_13 hl0) (c_J7_fill_53178 (by decide)) (
  b_X3_study_24  (k1)))))
theorem w_X3_study_26 {d : Nat} {I : Nat → Nat → Int} {S : PS} {a0 a1 : Nat} {x2 : Int} {J1 J2 J3 : Nat → Nat → Int} {z1 z2 z3 : Bool} {h1 : PM} (hl0 : LyX3 S a0) (hl1 : LyX6 S a1)
    (k1 : (I a1 1 ≤ x2) → L_X3_study_118 d a0 a1 1 (up2 I a0 14 0) S h1)
    (g1 : (x2 < I a1 1) → Ca (d + 21) mX3_fillRing [vR (some (14, 0, a0)), vR (some (16, 0, a1)), vI (I (a1 + 1) x2.toNat), vI 0] (I, S) (.inl (some (vI (if z1 = true then (1 : Int) else 0)))) (J1, S))
    (k2 : (x2 < I a1 1) → (¬(z1 = true)) → ((up2 J1 (a0 + 5) (x2.toNat) (p_i2b (p_i2b (if ¬(z1 = true) then ((-1) : Int) else 0)))) a0 6 ≤ 0) → L_X3_study_26 d a0 a1 (x2 + 1) (up2 J1 (a0 + 5) (x2.toNat) (p_i2b (p_i2b (if ¬(z1 = true) then ((-1) : Int) else 0)))) S h1)
    (g2 : (x2 < I a1 1) → (¬(z1 = true)) → (0 < (up2 J1 (a0 + 5) (x2.toNat) (p_i2b (p_i2b (if ¬(z1 = true) then ((-1) : Int) else 0)))) a0 6) → Ca (d + 21) mX3_fillRing [vR (some (14, 0, a0)), vR (some (16, 0, a1)), vI ((up2 J1 (a0 + 5) (x2.toNat) (p_i2b (p_i2b (if ¬(z1 = true) then ((-1) : Int) else 0)))) (a1 + 1) x2.toNat), vI 1] ((up2 J1 (a0 + 5) (x2.toNat) (p_i2b (p_i2b (if ¬(z1 = true) then ((-1) : Int) else 0)))), S) (.inl (some (vI (if z2 = true then (1 : Int) else 0)))) (J2, S))
    (k3 : (x2 < I a1 1) → (¬(z1 = true)) → (0 < (up2 J1 (a0 + 5) (x2.toNat) (p_i2b (p_i2b (if ¬(z1 = true) then ((-1) : Int) else 0)))) a0 6) → (¬(z2 = true)) → L_X3_study_26 d a0 a1 (x2 + 1) J2 S h1)
    (k4 : (x2 < I a1 1) → (¬(z1 = true)) → (0 < (up2 J1 (a0 + 5) (x2.toNat) (p_i2b (p_i2b (if ¬(z1 = true) then ((-1) : Int) else 0)))) a0 6) → (z2 = true) → L_X3_study_26 d a0 a1 (x2 + 1) (up2 J2 (a0 + 8) ((p_shr x2 5).toNat) (p_or (J2 (a0 + 8) (p_shr x2 5).toNat) (p_shl 1 (p_and x2 31)))) S h1)
    (k5 : (x2 < I a1 1) → (z1 = true) → ((up2 (up2 J1 (a0 + 5) (x2.toNat) (p_i2b (p_i2b (if ¬(z1 = true) then ((-1) : Int) else 0)))) (a0 + 6) ((p_shr x2 5).toNat) (p_or ((up2 J1 (a0 + 5) (x2.toNat) (p_i2b (p_i2b (if ¬(z1 = true) then ((-1) : Int) else 0)))) (a0 + 6) (p_shr x2 5).toNat) (p_shl 1 (p_and x2 31)))) a0 6 ≤ 0) → L_X3_study_26 d a0 a1 (x2 + 1) (up2 (up2 J1 (a0 + 5) (x2.toNat) (p_i2b (p_i2b (if ¬(z1 = true) then ((-1) : Int) else 0)))) (a0 + 6) ((p_shr x2 5).toNat) (p_or ((up2 J1 (a0 + 5) (x2.toNat) (p_i2b (p_i2b (if ¬(z1 = true) then ((-1) : Int) else 0)))) (a0 + 6) (p_shr x2 5).toNat) (p_shl 1 (p_and x2 31)))) S h1)
    (g3 : (x2 < I a1 1) → (z1 = true) → (0 < (up2 (up2 J1 (a0 + 5) (x2.toNat) (p_i2b (p_i2b (if ¬(z1 = true) then ((-1) : Int) else 0)))) (a0 + 6) ((p_shr x2 5).toNat) (p_or ((up2 J1 (a0 + 5) (x2.toNat) (p_i2b (p_i2b (if ¬(z1 = true) then ((-1) : Int) else 0)))) (a0 + 6) (p_shr x2 5).toNat) (p_shl 1 (p_and x2 31)))) a0 6) → Ca (d + 21) mX3_fillRing [vR (some (14, 0, a0)), vR (some (16, 0, a1)), vI ((up2 (up2 J1 (a0 + 5) (x2.toNat) (p_i2b (p_i2b (if ¬(z1 = true) then ((-1) : Int) else 0)))) (a0 + 6) ((p_shr x2 5).toNat) (p_or ((up2 J1 (a0 + 5) (x2.toNat) (p_i2b (p_i2b (if ¬(z1 = true) then ((-1) : Int) else 0)))) (a0 + 6) (p_shr x2 5).toNat) (p_shl 1 (p_and x2 31)))) (a1 + 1) x2.toNat), vI 1] ((up2 (up2 J1 (a0 + 5) (x2.toNat) (p_i2b (p_i2b (if ¬(z1 = true) then ((-1) : Int) else 0)))) (a0 + 6) ((p_shr x2 5).toNat) (p_or ((up2 J1 (a0 + 5) (x2.toNat) (p_i2b (p_i2b (if ¬(z1 = true) then ((-1) : Int) else 0)))) (a0 + 6) (p_shr x2 5).toNat) (p_shl 1 (p_and x2 31)))), S) (.inl (some (vI (if z3 = true then (1 : Int) else 0)))) (J3, S))
    (k6 : (x2 < I a1 1) → (z1 = true) → (0 < (up2 (up2 J1 (a0 + 5) (x2.toNat) (p_i2b (p_i2b (if ¬(z1 = true) then ((-1) : Int) else 0)))) (a0 + 6) ((p_shr x2 5).toNat) (p_or ((up2 J1 (a0 + 5) (x2.toNat) (p_i2b (p_i2b (if ¬(z1 = true) then ((-1) : Int) else 0)))) (a0 + 6) (p_shr x2 5).toNat) (p_shl 1 (p_and x2 31)))) a0 6) → (¬(z3 = true)) → L_X3_study_26 d a0 a1 (x2 + 1) J3 S h1)
    (k7 : (x2 < I a1 1) → (z1 = true) → (0 < (up2 (up2 J1 (a0 + 5) (x2.toNat) (p_i2b (p_i2b (if ¬(z1 = true) then ((-1) : Int) else 0)))) (a0 + 6) ((p_shr x2 5).toNat) (p_or ((up2 J1 (a0 + 5) (x2.toNat) (p_i2b (p_i2b (if ¬(z1 = true) then ((-1) : Int) else 0)))) (a0 + 6) (p_shr x2 5).toNat) (p_shl 1 (p_and x2 31)))) a0 6) → (z3 = true) → L_X3_study_26 d a0 a1 (x2 + 1) (up2 J3 (a0 + 8) ((p_shr x2 5).toNat) (p_or (J3 (a0 + 8) (p_shr x2 5).toNat) (p_shl 1 (p_and x2 31)))) S h1)
    (v1 : (x2 < I a1 1) → 0 ≤ x2 ∧ x2 < (91 : Nat) := by intros; first | assumption | omega | (split <;> omega))
    (v2 : (x2 < I a1 1) → (¬(z1 = true)) → ((up2 J1 (a0 + 5) (x2.toNat) (p_i2b (p_i2b (if ¬(z1 = true) then ((-1) : Int) else 0)))) a0 6 ≤ 0) → -2147483648 ≤ x2 + 1 ∧ x2 + 1 ≤ 2147483647 := by intros; first | assumption | omega | (split <;> omega))
    (v3 : (x2 < I a1 1) → (¬(z1 = true)) → (0 < (up2 J1 (a0 + 5) (x2.toNat) (p_i2b (p_i2b (if ¬(z1 = true) then ((-1) : Int) else 0)))) a0 6) → (¬(z2 = true)) → -2147483648 ≤ x2 + 1 ∧ x2 + 1 ≤ 2147483647 := by intros; first | assumption | omega | (split <;> omega))
    (v4 : (x2 < I a1 1) → (¬(z1 = true)) → (0 < (up2 J1 (a0 + 5) (x2.toNat) (p_i2b (p_i2b (if ¬(z1 = true) then ((-1) : Int) else 0)))) a0 6) → (z2 = true) → 0 ≤ p_shr x2 5 ∧ p_shr x2 5 < (3 : Nat) := by intros; first | assumption | omega | (split <;> omega))
    (v5 : (x2 < I a1 1) → (¬(z1 = true)) → (0 < (up2 J1 (a0 + 5) (x2.toNat) (p_i2b (p_i2b (if ¬(z1 = true) then ((-1) : Int) else 0)))) a0 6) → (z2 = true) → -2147483648 ≤ x2 + 1 ∧ x2 + 1 ≤ 2147483647 := by intros; first | assumption | omega | (split <;> omega))
    (v6 : (x2 < I a1 1) → (z1 = true) → 0 ≤ p_shr x2 5 ∧ p_shr x2 5 < (3 : Nat) := by intros; first | assumption | omega | (split <;> omega))
    (v7 : (x2 < I a1 1) → (z1 = true) → ((up2 (up2 J1 (a0 + 5) (x2.toNat) (p_i2b (p_i2b (if ¬(z1 = true) then ((-1) : Int) else 0)))) (a0 + 6) ((p_shr x2 5).toNat) (p_or ((up2 J1 (a0 + 5) (x2.toNat) (p_i2b (p_i2b (if ¬(z1 = true) then ((-1) : Int) else 0)))) (a0 + 6) (p_shr x2 5).toNat) (p_shl 1 (p_and x2 31)))) a0 6 ≤ 0) → -2147483648 ≤ x2 + 1 ∧ x2 + 1 ≤ 2147483647 := by intros; first | assumption | omega | (split <;> omega))
    (v8 : (x2 < I a1 1) → (z1 = true) → (0 < (up2 (up2 J1 (a0 + 5) (x2.toNat) (p_i2b (p_i2b (if ¬(z1 = true) then ((-1) : Int) else 0)))) (a0 + 6) ((p_shr x2 5).toNat) (p_or ((up2 J1 (a0 + 5) (x2.toNat) (p_i2b (p_i2b (if ¬(z1 = true) then ((-1) : Int) else 0)))) (a0 + 6) (p_shr x2 5).toNat) (p_shl 1 (p_and x2 31)))) a0 6) → (¬(z3 = true)) → -2147483648 ≤ x2 + 1 ∧ x2 + 1 ≤ 2147483647 := by intros; first | assumption | omega | (split <;> omega))
    (v9 : (x2 < I a1 1) → (z1 = true) → (0 < (up2 (up2 J1 (a0 + 5) (x2.toNat) (p_i2b (p_i2b (if ¬(z1 = true) then ((-1) : Int) else 0)))) (a0 + 6) ((p_shr x2 5).toNat) (p_or ((up2 J1 (a0 + 5) (x2.toNat) (p_i2b (p_i2b (if ¬(z1 = true) then ((-1) : Int) else 0)))) (a0 + 6) (p_shr x2 5).toNat) (p_shl 1 (p_and x2 31)))) a0 6) → (z3 = true) → -2147483648 ≤ x2 + 1 ∧ x2 + 1 ≤ 2147483647 := by intros; first | assumption | omega | (split <;> omega)) : L_X3_study_26 d a0 a1 x2 I S h1 :=
  
  b_X3_study_26  (fun (c1 : I a1 1 ≤ x2) => 
    b_X3_study_111  ((k1 c1))) (fun (c2 : x2 < I a1 1) => 
    b_X3_study_34 (ly_X6_2 hl1) (v1 c2) (g1 c2) (
    have K4 : ∀ us2 : Int, us2 = (if ¬(z1 = true) then ((-1) : Int) else 0) → Ev (d + 22) mX3_study (61, [some (vR (some (14, 0, a0))), some (vR (some (16, 0, a1))), some (vI x2), some (vI (if z1 = true then (1 : Int) else 0))], [vI us2, vI x2, vR (some (1, 91, (a0 + 5)))], (J1, S)) (.inl none, h1) := fun us2 e_us2 => by subst e_us2; exact (
      b_X3_study_61 (v1 c2) (fun c6' => have c6 : ¬(z1 = true) := b2f c6'; 
        b_X3_study_75  (fun (c8 : (up2 J1 (a0 + 5) (x2.toNat) (p_i2b (p_i2b (if ¬(z1 = true) then ((-1) : Int) else 0)))) a0 6 ≤ 0) => 
          b_X3_study_105 (v2 c2 c6 c8) ((k2 c2 c6 c8))) (fun (c9 : 0 < (up2 J1 (a0 + 5) (x2.toNat) (p_i2b (p_i2b (if ¬(z1 = true) then ((-1) : Int) else 0)))) a0 6) => 
          b_X3_study_82 (ly_X6_2 hl1) (v1 c2) (g2 c2 c6 c9) (
          b_X3_study_94  (fun c10' => have c10 : ¬(z2 = true) := b2f c10'; 
            b_X3_study_105 (v3 c2 c6 c9 c10) ((k3 c2 c6 c9 c10))) (fun c11' => have c11 : z2 = true := b2t c11'; 
            b_X3_study_97 (ly_X3_13 hl0) (c_X3_include (v4 c2 c6 c9 c11)) (
            b_X3_study_105 (v5 c2 c6 c9 c11) ((k4 c2 c6 c9 c11))))))) (fun c7' => have c7 : z1 = true := b2t c7'; 
        b_X3_study_67 (ly_X3_11 hl0) (c_X3_include (v6 c2 c7)) (
        b_X3_study_75  (fun (c12 : (up2 (up2 J1 (a0 + 5) (x2.toNat) (p_i2b (p_i2b (if ¬(z1 = true) then ((-1) : Int) else 0)))) (a0 + 6) ((p_shr x2 5).toNat) (p_or ((up2 J1 (a0 + 5) (x2.toNat) (p_i2b (p_i2b (if ¬(z1 = true) then ((-1) : Int) else 0)))) (a0 + 6) (p_shr x2 5).toNat) (p_shl 1 (p_and x2 31)))) a0 6 ≤ 0) => 
          b_X3_study_105 (v7 c2 c7 c12) ((k5 c2 c7 c12))) (fun (c13 : 0 < (up2 (up2 J1 (a0 + 5) (x2.toNat) (p_i2b (p_i2b (if ¬(z1 = true) then ((-1) : Int) else 0)))) (a0 + 6) ((p_shr x2 5).toNat) (p_or ((up2 J1 (a0 + 5) (x2.toNat) (p_i2b (p_i2b (if ¬(z1 = true) then ((-1) : Int) else 0)))) (a0 + 6) (p_shr x2 5).toNat) (p_shl 1 (p_and x2 31)))) a0 6) => 
          b_X3_study_82 (ly_X6_2 hl1) (v1 c2) (g3 c2 c7 c13) (
          b_X3_study_94  (fun c14' => have c14 : ¬(z3 = true) := b2f c14'; 
            b_X3_study_105 (v8 c2 c7 c13 c14) ((k6 c2 c7 c13 c14))) (fun c15' => have c15 : z3 = true := b2t c15'; 
            b_X3_study_97 (ly_X3_13 hl0) (c_X3_include (v6 c2 c7)) (
            b_X3_study_105 (v9 c2 c7 c13 c15) ((k7 c2 c7 c13 c15)))))))))
    
    b_X3_study_46 (ly_X3_10 hl0) (fun c3' => have c3 : ¬(z1 = true) := b2f c3'; 
      b_X3_study_60  (K4 (-1) ((if_pos c3).symm))) (fun c4' => have c4 : z1 = true := b2t c4'; 
      b_X3_study_56  (K4 0 ((if_neg (fun q => q c4)).symm)))))
theorem w_X3_study_118 {d : Nat} {I : Nat → Nat → Int} {S : PS} {a0 a1 : Nat} {x2 : Int} {J1 : Nat → Nat → Int} {z1 : Bool} {h1 : PM} (hl0 : LyX3 S a0) (hl1 : LyX6 S a1)
    (k1 : (I a1 1 < x2) → L_X3_study_148 d a0 a1 0 I S h1)
    (g1 : (x2 ≤ I a1 1) → Ca (d + 21) mX3_addLevel [vR (some (14, 0, a0)), vR (some (16, 0, a1)), vI x2] (I, S) (.inl (some (vI (if z1 = true then (1 : Int) else 0)))) (J1, S))
    (k2 : (x2 ≤ I a1 1) → (¬(z1 = true)) → L_X3_study_148 d a0 a1 0 J1 S h1)
    (k3 : (x2 ≤ I a1 1) → (z1 = true) → L_X3_study_118 d a0 a1 (x2 + 1) (up2 J1 a0 14 x2) S h1)
    (v1 : (x2 ≤ I a1 1) → (z1 = true) → -2147483648 ≤ x2 + 1 ∧ x2 + 1 ≤ 2147483647 := by intros; first | assumption | omega | (split <;> omega)) : L_X3_study_118 d a0 a1 x2 I S h1 :=
  
  b_X3_study_118  (fun (c1 : I a1 1 < x2) => 
    b_X3_study_146  ((k1 c1))) (fun (c2 : x2 ≤ I a1 1) => 
    b_X3_study_126  (g1 c2) (
    b_X3_study_132  (fun c3' => have c3 : ¬(z1 = true) := b2f c3'; 
      b_X3_study_146  ((k2 c2 c3))) (fun c4' => have c4 : z1 = true := b2t c4'; 
      b_X3_study_135 (v1 c2 c4) ((k3 c2 c4)))))
theorem w_X3_study_148 {d : Nat} {I : Nat → Nat → Int} {S : PS} {a0 a1 : Nat} {x2 : Int} {h1 : PM} (hl0 : LyX3 S a0) (hl1 : LyX6 S a1)
    (k1 : (x2 < I a1 1) → (I (a0 + 5) x2.toNat ≠ (-1)) → L_X3_study_148 d a0 a1 (x2 + 1) I S h1)
    (k2 : (x2 < I a1 1) → (I (a0 + 5) x2.toNat = (-1)) → L_X3_study_148 d a0 a1 (x2 + 1) (up2 I (a0 + 7) ((p_shr x2 5).toNat) (p_or (I (a0 + 7) (p_shr x2 5).toNat) (p_shl 1 (p_and x2 31)))) S h1)
    (e1 : (I a1 1 ≤ x2) → ((up2 I a0 9 1), S) = h1 := by intros; first | rfl | (exfalso; omega) | contradiction | (exfalso; simp_all; done))
    (v1 : (x2 < I a1 1) → 0 ≤ x2 ∧ x2 < (91 : Nat) := by intros; first | assumption | omega | (split <;> omega))
    (v2 : (x2 < I a1 1) → (I (a0 + 5) x2.toNat ≠ (-1)) → -2147483648 ≤ x2 + 1 ∧ x2 + 1 ≤ 2147483647 := by intros; first | assumption | omega | (split <;> omega))
    (v3 : (x2 < I a1 1) → (I (a0 + 5) x2.toNat = (-1)) → 0 ≤ p_shr x2 5 ∧ p_shr x2 5 < (3 : Nat) := by intros; first | assumption | omega | (split <;> omega))
    (v4 : (x2 < I a1 1) → (I (a0 + 5) x2.toNat = (-1)) → -2147483648 ≤ x2 + 1 ∧ x2 + 1 ≤ 2147483647 := by intros; first | assumption | omega | (split <;> omega)) : L_X3_study_148 d a0 a1 x2 I S h1 :=
  
  b_X3_study_148  (fun (c1 : I a1 1 ≤ x2) => ev_retV (e1 c1) (b_X3_study_180 )) (fun (c2 : x2 < I a1 1) => 
    b_X3_study_156 (ly_X3_10 hl0) (v1 c2) (fun (c3 : I (a0 + 5) x2.toNat ≠ (-1)) => 
      b_X3_study_174 (v2 c2 c3) ((k1 c2 c3))) (fun (c4 : I (a0 + 5) x2.toNat = (-1)) => 
      b_X3_study_166 (ly_X3_12 hl0) (c_X3_include (v3 c2 c4)) (
      b_X3_study_174 (v4 c2 c4) ((k2 c2 c4)))))
abbrev L_X3_addLevel_5 (d : Nat) (a0 : Nat) (a1 : Nat) (x2 : Int) (x3 : Int) (x4 : Int) (I : Nat → Nat → Int) (S : PS) (v : Int) (h1 : PM) : Prop := Ev (d + 1) mX3_addLevel (5, [some (vR (some (14, 0, a0))), some (vR (some (16, 0, a1))), some (vI x2), some (vI x3), some (vI x4)], [], (I, S)) (.inl (some (vI v)), h1)
theorem w_X3_addLevel_0 {d : Nat} {I : Nat → Nat → Int} {S : PS} {a0 a1 : Nat} {x2 : Int} {v : Int} {h1 : PM} (hl0 : LyX3 S a0) (hl1 : LyX6 S a1)
    (k1 : L_X3_addLevel_5 d a0 a1 x2 0 0 I S v h1) : Ca (d + 1) mX3_addLevel [vR (some (14, 0, a0)), vR (some (16, 0, a1)), vI x2] (I, S) (.inl (some (vI v))) h1 :=
  Ca.of rfl rfl (
  b_X3_addLevel_0  (k1))
theorem w_X3_addLevel_5 {d : Nat} {I : Nat → Nat → Int} {S : PS} {a0 a1 : Nat} {x2 x3 x4 : Int} {J1 : Nat → Nat → Int} {z1 : Bool} {v : Int} {h1 : PM} (hl0 : LyX3 S a0) (hl1 : LyX6 S a1)
    (k1 : (x4 < I a1 1) → (I (a0 + 5) x4.toNat ≠ (-1)) → L_X3_addLevel_5 d a0 a1 x2 x3 (x4 + 1) I S v h1)
    (g1 : (x4 < I a1 1) → (I (a0 + 5) x4.toNat = (-1)) → Ca d mX6_leadsBelow [vR (some (16, 0, a1)), vI x4, vR (some (1, 91, (a0 + 5))), vI x2] (I, S) (.inl (some (vI (if z1 = true then (1 : Int) else 0)))) (J1, S))
    (k2 : (x4 < I a1 1) → (I (a0 + 5) x4.toNat = (-1)) → (¬(z1 = true)) → L_X3_addLevel_5 d a0 a1 x2 x3 (x4 + 1) J1 S v h1)
    (k3 : (x4 < I a1 1) → (I (a0 + 5) x4.toNat = (-1)) → (z1 = true) → L_X3_addLevel_5 d a0 a1 x2 1 (x4 + 1) (up2 J1 (a0 + 5) (x4.toNat) (p_i2b (p_i2b x2))) S v h1)
    (r1 : (I a1 1 ≤ x4) → x3 = v)
    (e1 : (I a1 1 ≤ x4) → (I, S) = h1 := by intros; first | rfl | (exfalso; omega) | contradiction | (exfalso; simp_all; done))
    (v1 : (I a1 1 ≤ x4) → x3 = 0 ∨ x3 = 1 := by intros; first | assumption | omega | (split <;> omega))
    (v2 : (x4 < I a1 1) → 0 ≤ x4 ∧ x4 < (91 : Nat) := by intros; first | assumption | omega | (split <;> omega))
    (v3 : (x4 < I a1 1) → (I (a0 + 5) x4.toNat ≠ (-1)) → -2147483648 ≤ x4 + 1 ∧ x4 + 1 ≤ 2147483647 := by intros; first | assumption | omega | (split <;> omega))
    (v4 : (x4 < I a1 1) → (I (a0 + 5) x4.toNat = (-1)) → (¬(z1 = true)) → -2147483648 ≤ x4 + 1 ∧ x4 + 1 ≤ 2147483647 := by intros; first | assumption | omega | (split <;> omega))
    (v5 : (x4 < I a1 1) → (I (a0 + 5) x4.toNat = (-1)) → (z1 = true) → -2147483648 ≤ x4 + 1 ∧ x4 + 1 ≤ 2147483647 := by intros; first | assumption | omega | (split <;> omega)) : L_X3_addLevel_5 d a0 a1 x2 x3 x4 I S v h1 :=
  
  b_X3_addLevel_5  (fun (c1 : I a1 1 ≤ x4) => ev_ret2 (r1 c1) (e1 c1) (b_X3_addLevel_56 (v1 c1))) (fun (c2 : x4 < I a1 1) => 
    b_X3_addLevel_14 (ly_X3_10 hl0) (v2 c2) (fun (c3 : I (a0 + 5) x4.toNat ≠ (-1)) => 
      b_X3_addLevel_50 (v3 c2 c3) ((k1 c2 c3))) (fun (c4 : I (a0 + 5) x4.toNat = (-1)) => 
      b_X3_addLevel_25 (ly_X3_10 hl0) (g1 c2 c4) (
      b_X3_addLevel_36  (fun c5' => have c5 : ¬(z1 = true) := b2f c5'; 
        b_X3_addLevel_50 (v4 c2 c4 c5) ((k2 c2 c4 c5))) (fun c6' => have c6 : z1 = true := b2t c6'; 
        b_X3_addLevel_39 (ly_X3_10 hl0) (v2 c2) (
        b_X3_addLevel_50 (v5 c2 c4 c6) ((k3 c2 c4 c6)))))))
abbrev L_X6_leadsBelow_3 (d : Nat) (a0 : Nat) (x1 : Int) (n2 : Nat) (a2 : Nat) (x3 : Int) (x4 : Int) (I : Nat → Nat → Int) (S : PS) (v : Int) (h1 : PM) : Prop := Ev (d + 1) mX6_leadsBelow (3, [some (vR (some (16, 0, a0))), some (vI x1), some (vR (some (1, n2, a2))), some (vI x3), some (vI x4)], [], (I, S)) (.inl (some (vI v)), h1)
theorem w_X6_leadsBelow_0 {d : Nat} {I : Nat → Nat → Int} {S : PS} {a0 n2 a2 : Nat} {x1 x3 : Int} {v : Int} {h1 : PM} (hl0 : LyX6 S a0)
    (k1 : L_X6_leadsBelow_3 d a0 x1 n2 a2 x3 0 I S v h1) : Ca (d + 1) mX6_leadsBelow [vR (some (16, 0, a0)), vI x1, vR (some (1, n2, a2)), vI x3] (I, S) (.inl (some (vI v))) h1 :=
  Ca.of rfl rfl (
  b_X6_leadsBelow_0  (k1))
theorem w_X6_leadsBelow_3 {d : Nat} {I : Nat → Nat → Int} {S : PS} {a0 n2 a2 : Nat} {x1 x3 x4 : Int} {J1 : Nat → Nat → Int} {z1 : Bool} {v : Int} {h1 : PM} (hl0 : LyX6 S a0)
    (g1 : (x4 < 3) → Ca d mX6_leadsBelowBy [vR (some (16, 0, a0)), vI ((x1 * 3) + x4), vR (some (1, n2, a2)), vI x3] (I, S) (.inl (some (vI (if z1 = true then (1 : Int) else 0)))) (J1, S))
    (k1 : (x4 < 3) → (¬(z1 = true)) → L_X6_leadsBelow_3 d a0 x1 n2 a2 x3 (x4 + 1) J1 S v h1)
    (r1 : (3 ≤ x4) → 0 = v)
    (e1 : (3 ≤ x4) → (I, S) = h1 := by intros; first | rfl | (exfalso; omega) | contradiction | (exfalso; simp_all; done))
    (r2 : (x4 < 3) → (z1 = true) → 1 = v)
    (e2 : (x4 < 3) → (z1 = true) → (J1, S) = h1 := by intros; first | rfl | (exfalso; omega) | contradiction | (exfalso; simp_all; done))
    (v1 : (x4 < 3) → -2147483648 ≤ x1 * 3 ∧ x1 * 3 ≤ 2147483647 := by intros; first | assumption | omega | (split <;> omega))
    (v2 : (x4 < 3) → -2147483648 ≤ (x1 * 3) + x4 ∧ (x1 * 3) + x4 ≤ 2147483647 := by intros; first | assumption | omega | (split <;> omega))
    (v3 : (x4 < 3) → (¬(z1 = true)) → -2147483648 ≤ x4 + 1 ∧ x4 + 1 ≤ 2147483647 := by intros; first | assumption | omega | (split <;> omega)) : L_X6_leadsBelow_3 d a0 x1 n2 a2 x3 x4 I S v h1 :=
  
  b_X6_leadsBelow_3  (fun (c1 : 3 ≤ x4) => ev_ret2 (r1 c1) (e1 c1) (b_X6_leadsBelow_32 )) (fun (c2 : x4 < 3) => 
    b_X6_leadsBelow_9 (v1 c2) (v2 c2) (g1 c2) (
    b_X6_leadsBelow_21  (fun c3' => have c3 : ¬(z1 = true) := b2f c3'; 
      b_X6_leadsBelow_26 (v3 c2 c3) ((k1 c2 c3))) (fun c4' => have c4 : z1 = true := b2t c4'; ev_ret2 (r2 c2 c4) (e2 c2 c4) (b_X6_leadsBelow_24 ))))
end
