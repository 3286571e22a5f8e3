noncomputable section
theorem w_X12_begins_0 {d : Nat} {I : Nat → Nat → Int} {S : PS} {b1 b2 : Prop} {J1 J2 J3 J4 J5 J6 J7 : Nat → Nat → Int} [Decidable b1] [Decidable b2] {v : Int} {h1 : PM} (hl0 : LyX12 S)
    (g1 : (¬(b1)) → (¬(b2)) → (I 156 3 = 0) → Ca (d + 3) mX12_goes [vR (some (22, 0, 156))] (I, S) (.inl none) (J1, S))
    (g2 : (¬(b1)) → (b2) → Ca (d + 3) mX12_wrong [vR (some (22, 0, 156)), vI 3] (I, S) (.inl none) (J2, S))
    (g3 : (¬(b1)) → (b2) → (J2 156 3 = 0) → Ca (d + 3) mX12_goes [vR (some (22, 0, 156))] (J2, S) (.inl none) (J3, S))
    (g4 : (b1) → Ca (d + 3) mX12_wrong [vR (some (22, 0, 156)), vI 2] (I, S) (.inl none) (J4, S))
    (g5 : (b1) → (¬(b2)) → (J4 156 3 = 0) → Ca (d + 3) mX12_goes [vR (some (22, 0, 156))] (J4, S) (.inl none) (J5, S))
    (g6 : (b1) → (b2) → Ca (d + 3) mX12_wrong [vR (some (22, 0, 156)), vI 3] (J4, S) (.inl none) (J6, S))
    (g7 : (b1) → (b2) → (J6 156 3 = 0) → Ca (d + 3) mX12_goes [vR (some (22, 0, 156))] (J6, S) (.inl none) (J7, S))
    (r1 : (¬(b1)) → (¬(b2)) → (I 156 3 = 0) → 1 = v := by intros; first | rfl | (exfalso; omega) | contradiction | (exfalso; simp_all; done))
    (e1 : (¬(b1)) → (¬(b2)) → (I 156 3 = 0) → (J1, S) = h1 := by intros; first | rfl | (exfalso; omega) | contradiction | (exfalso; simp_all; done))
    (r2 : (¬(b1)) → (¬(b2)) → (¬(I 156 3 = 0)) → 0 = v := by intros; first | rfl | (exfalso; omega) | contradiction | (exfalso; simp_all; done))
    (e2 : (¬(b1)) → (¬(b2)) → (¬(I 156 3 = 0)) → (I, S) = h1 := by intros; first | rfl | (exfalso; omega) | contradiction | (exfalso; simp_all; done))
    (r3 : (¬(b1)) → (b2) → (J2 156 3 = 0) → 1 = v := by intros; first | rfl | (exfalso; omega) | contradiction | (exfalso; simp_all; done))
    (e3 : (¬(b1)) → (b2) → (J2 156 3 = 0) → (J3, S) = h1 := by intros; first | rfl | (exfalso; omega) | contradiction | (exfalso; simp_all; done))
    (r4 : (¬(b1)) → (b2) → (¬(J2 156 3 = 0)) → 0 = v := by intros; first | rfl | (exfalso; omega) | contradiction | (exfalso; simp_all; done))
    (e4 : (¬(b1)) → (b2) → (¬(J2 156 3 = 0)) → (J2, S) = h1 := by intros; first | rfl | (exfalso; omega) | contradiction | (exfalso; simp_all; done))
    (r5 : (b1) → (¬(b2)) → (J4 156 3 = 0) → 1 = v := by intros; first | rfl | (exfalso; omega) | contradiction | (exfalso; simp_all; done))
    (e5 : (b1) → (¬(b2)) → (J4 156 3 = 0) → (J5, S) = h1 := by intros; first | rfl | (exfalso; omega) | contradiction | (exfalso; simp_all; done))
    (r6 : (b1) → (¬(b2)) → (¬(J4 156 3 = 0)) → 0 = v := by intros; first | rfl | (exfalso; omega) | contradiction | (exfalso; simp_all; done))
    (e6 : (b1) → (¬(b2)) → (¬(J4 156 3 = 0)) → (J4, S) = h1 := by intros; first | rfl | (exfalso; omega) | contradiction | (exfalso; simp_all; done))
    (r7 : (b1) → (b2) → (J6 156 3 = 0) → 1 = v := by intros; first | rfl | (exfalso; omega) | contradiction | (exfalso; simp_all; done))
    (e7 : (b1) → (b2) → (J6 156 3 = 0) → (J7, S) = h1 := by intros; first | rfl | (exfalso; omega) | contradiction | (exfalso; simp_all; done))
    (r8 : (b1) → (b2) → (¬(J6 156 3 = 0)) → 0 = v := by intros; first | rfl | (exfalso; omega) | contradiction | (exfalso; simp_all; done))
    (e8 : (b1) → (b2) → (¬(J6 156 3 = 0)) → (J6, S) = h1 := by intros; first | rfl | (exfalso; omega) | contradiction | (exfalso; simp_all; done)) : Ca (d + 4) mX12_begins [vR (some (22, 0, 156)), vI (if b1 then (1 : Int) else 0), vI (if b2 then (1 : Int) else 0)] (I, S) (.inl (some (vI v))) h1 :=
  Ca.of rfl rfl (
  b_X12_begins_0  (fun c1' => have c1 : ¬(b1) := b2f c1'; 
    b_X12_begins_9  (fun c3' => have c3 : ¬(b2) := b2f c3'; 
      b_X12_begins_18  (c_X12_isGood hl0) (
      b_X12_begins_22  (fun c5' => have c5 : I 156 3 = 0 := b2t c5'; 
        b_X12_begins_27  (g1 c1 c3 c5) (ev_ret2 (r1 c1 c3 c5) (e1 c1 c3 c5) (b_X12_begins_31 ))) (fun c6' => have c6 : ¬(I 156 3 = 0) := b2f c6'; ev_ret2 (r2 c1 c3 c6) (e2 c1 c3 c6) (b_X12_begins_25 )))) (fun c4' => have c4 : b2 := b2t c4'; 
      b_X12_begins_13  (g2 c1 c4) (
      b_X12_begins_18  (c_X12_isGood hl0) (
      b_X12_begins_22  (fun c7' => have c7 : J2 156 3 = 0 := b2t c7'; 
        b_X12_begins_27  (g3 c1 c4 c7) (ev_ret2 (r3 c1 c4 c7) (e3 c1 c4 c7) (b_X12_begins_31 ))) (fun c8' => have c8 : ¬(J2 156 3 = 0) := b2f c8'; ev_ret2 (r4 c1 c4 c8) (e4 c1 c4 c8) (b_X12_begins_25 )))))) (fun c2' => have c2 : b1 := b2t c2'; 
    b_X12_begins_4  (g4 c2) (
    b_X12_begins_9  (fun c9' => have c9 : ¬(b2) := b2f c9'; 
      b_X12_begins_18  (c_X12_isGood hl0) (
      b_X12_begins_22  (fun c11' => have c11 : J4 156 3 = 0 := b2t c11'; 
        b_X12_begins_27  (g5 c2 c9 c11) (ev_ret2 (r5 c2 c9 c11) (e5 c2 c9 c11) (b_X12_begins_31 ))) (fun c12' => have c12 : ¬(J4 156 3 = 0) := b2f c12'; ev_ret2 (r6 c2 c9 c12) (e6 c2 c9 c12) (b_X12_begins_25 )))) (fun c10' => have c10 : b2 := b2t c10'; 
      b_X12_begins_13  (g6 c2 c10) (
      b_X12_begins_18  (c_X12_isGood hl0) (
      b_X12_begins_22  (fun c13' => have c13 : J6 156 3 = 0 := b2t c13'; 
        b_X12_begins_27  (g7 c2 c10 c13) (ev_ret2 (r7 c2 c10 c13) (e7 c2 c10 c13) (b_X12_begins_31 ))) (fun c14' => have c14 : ¬(J6 156 3 = 0) := b2f c14'; ev_ret2 (r8 c2 c10 c14) (e8 c2 c10 c14) (b_X12_begins_25 ))))))))
abbrev L_X12_clause_175 (d : Nat) (a0 : Nat) (x1 : Int) (I : Nat → Nat → Int) (S : PS) (h1 : PM) : Prop := Ev (d + 6) mX12_clause (175, [some (vR (some (22, 0, a0))), some (vI x1)], [], (I, S)) (.inl none, h1)
theorem w_X12_clause_0 {d : Nat} {I : Nat → Nat → Int} {S : PS} {J1 J2 J3 J4 J5 J6 J7 J8 J9 : Nat → Nat → Int} {z2 z4 z6 z8 : Bool} {h1 : PM} (hl0 : LyX12 S)
    (g1 : ((kwM I) ≠ 0) → ((kwM I) ≠ 1) → ((kwM I) ≠ 2) → ((kwM I) ≠ 7) → Ca (d + 5) mX12_wrong [vR (some (22, 0, 156)), vI 1] (I, S) (.inl none) (J1, S))
    (k1 : ((kwM I) ≠ 0) → ((kwM I) ≠ 1) → ((kwM I) ≠ 2) → ((kwM I) ≠ 7) → L_X12_clause_175 d 156 (kwM I) J1 S h1)
    (g2 : ((kwM I) ≠ 0) → ((kwM I) ≠ 1) → ((kwM I) ≠ 2) → ((kwM I) = 7) → Ca (d + 5) mX12_begins [vR (some (22, 0, 156)), vI (if I 156 18 = 12 then (1 : Int) else 0), vI 0] (I, S) (.inl (some (vI (if z2 = true then (1 : Int) else 0)))) (J2, S))
    (k2 : ((kwM I) ≠ 0) → ((kwM I) ≠ 1) → ((kwM I) ≠ 2) → ((kwM I) = 7) → (¬(z2 = true)) → L_X12_clause_175 d 156 (kwM I) J2 S h1)
    (g3 : ((kwM I) ≠ 0) → ((kwM I) ≠ 1) → ((kwM I) ≠ 2) → ((kwM I) = 7) → (z2 = true) → Ca (d + 5) mX12_readsSpot [vR (some (22, 0, 156))] (J2, S) (.inl none) (J3, S))
    (k3 : ((kwM I) ≠ 0) → ((kwM I) ≠ 1) → ((kwM I) ≠ 2) → ((kwM I) = 7) → (z2 = true) → L_X12_clause_175 d 156 (kwM I) J3 S h1)
    (g4 : ((kwM I) ≠ 0) → ((kwM I) ≠ 1) → ((kwM I) = 2) → Ca (d + 5) mX12_begins [vR (some (22, 0, 156)), vI (if I 156 17 = 6 then (1 : Int) else 0), vI 0] (I, S) (.inl (some (vI (if z4 = true then (1 : Int) else 0)))) (J4, S))
    (k4 : ((kwM I) ≠ 0) → ((kwM I) ≠ 1) → ((kwM I) = 2) → (¬(z4 = true)) → L_X12_clause_175 d 156 (kwM I) J4 S h1)
    (g5 : ((kwM I) ≠ 0) → ((kwM I) ≠ 1) → ((kwM I) = 2) → (z4 = true) → Ca (d + 5) mX12_readsRule [vR (some (22, 0, 156))] (J4, S) (.inl none) (J5, S))
    (k5 : ((kwM I) ≠ 0) → ((kwM I) ≠ 1) → ((kwM I) = 2) → (z4 = true) → L_X12_clause_175 d 156 (kwM I) J5 S h1)
    (g6 : ((kwM I) ≠ 0) → ((kwM I) = 1) → Ca (d + 5) mX12_begins [vR (some (22, 0, 156)), vI (if (0 < I 156 16) ∧ (I 162 ((20 * (I 156 16 - 1)) + 10).toNat = 4) then (1 : Int) else 0), vI (if I 156 16 = 0 then (1 : Int) else 0)] (I, S) (.inl (some (vI (if z6 = true then (1 : Int) else 0)))) (J6, S))
    (k6 : ((kwM I) ≠ 0) → ((kwM I) = 1) → (¬(z6 = true)) → L_X12_clause_175 d 156 (kwM I) J6 S h1)
    (g7 : ((kwM I) ≠ 0) → ((kwM I) = 1) → (z6 = true) → Ca (d + 5) mX12_readsJoin [vR (some (22, 0, 156))] (J6, S) (.inl none) (J7, S))
    (k7 : ((kwM I) ≠ 0) → ((kwM I) = 1) → (z6 = true) → L_X12_clause_175 d 156 (kwM I) J7 S h1)
    (g8 : ((kwM I) = 0) → Ca (d + 5) mX12_begins [vR (some (22, 0, 156)), vI (if I 156 16 = 4 then (1 : Int) else 0), vI 0] (I, S) (.inl (some (vI (if z8 = true then (1 : Int) else 0)))) (J8, S))
    (k8 : ((kwM I) = 0) → (¬(z8 = true)) → L_X12_clause_175 d 156 (kwM I) J8 S h1)
    (g9 : ((kwM I) = 0) → (z8 = true) → Ca (d + 5) mX12_readsPiece [vR (some (22, 0, 156))] (J8, S) (.inl none) (J9, S))
    (k9 : ((kwM I) = 0) → (z8 = true) → L_X12_clause_175 d 156 (kwM I) J9 S h1)
    (v1 : ((kwM I) ≠ 0) → ((kwM I) = 1) → (0 < I 156 16) → -2147483648 ≤ I 156 16 - 1 ∧ I 156 16 - 1 ≤ 2147483647 := by intros; first | assumption | omega | (split <;> omega))
    (v2 : ((kwM I) ≠ 0) → ((kwM I) = 1) → (0 < I 156 16) → -2147483648 ≤ 20 * (I 156 16 - 1) ∧ 20 * (I 156 16 - 1) ≤ 2147483647 := by intros; first | assumption | omega | (split <;> omega))
    (v3 : ((kwM I) ≠ 0) → ((kwM I) = 1) → (0 < I 156 16) → -2147483648 ≤ (20 * (I 156 16 - 1)) + 10 ∧ (20 * (I 156 16 - 1)) + 10 ≤ 2147483647 := by intros; first | assumption | omega | (split <;> omega))
    (v4 : ((kwM I) ≠ 0) → ((kwM I) = 1) → (0 < I 156 16) → 0 ≤ (20 * (I 156 16 - 1)) + 10 ∧ (20 * (I 156 16 - 1)) + 10 < (80 : Nat) := by intros; first | assumption | omega | (split <;> omega)) : Ca (d + 6) mX12_clause [vR (some (22, 0, 156))] (I, S) (.inl none) h1 :=
  Ca.of rfl rfl (
  b_X12_clause_0  (c_X12_knownWord hl0) (
  b_X12_clause_4  (fun (c1 : (kwM I) ≠ 0) => 
    b_X12_clause_37  (fun (c3 : (kwM I) ≠ 1) => 
      b_X12_clause_101  (fun (c5 : (kwM I) ≠ 2) => 
        b_X12_clause_135  (fun (c7 : (kwM I) ≠ 7) => 
          b_X12_clause_170  (g1 c1 c3 c5 c7) ((k1 c1 c3 c5 c7))) (fun (c8 : (kwM I) = 7) => 
          have K10 : ∀ us1 : Int, us1 = (if I 156 18 = 12 then (1 : Int) else 0) → Ev (d + 6) mX12_clause (156, [some (vR (some (22, 0, 156))), some (vI (kwM I))], [vI us1, vR (some (22, 0, 156))], (I, S)) (.inl none, h1) := fun us1 e_us1 => by subst e_us1; exact (
            b_X12_clause_156  (g2 c1 c3 c5 c8) (
            b_X12_clause_160  (fun c12' => have c12 : ¬(z2 = true) := b2f c12'; (k2 c1 c3 c5 c8 c12)) (fun c13' => have c13 : z2 = true := b2t c13'; 
              b_X12_clause_163  (g3 c1 c3 c5 c8 c13) (
              b_X12_clause_167  ((k3 c1 c3 c5 c8 c13))))))
          
          b_X12_clause_141  (fun (c9 : I 156 18 ≠ 12) => 
            b_X12_clause_155  (K10 0 (if_neg c9).symm)) (fun (c10 : I 156 18 = 12) => 
            b_X12_clause_151  (K10 1 (if_pos c10).symm)))) (fun (c6 : (kwM I) = 2) => 
        have K15 : ∀ us1 : Int, us1 = (if I 156 17 = 6 then (1 : Int) else 0) → Ev (d + 6) mX12_clause (121, [some (vR (some (22, 0, 156))), some (vI (kwM I))], [vI us1, vR (some (22, 0, 156))], (I, S)) (.inl none, h1) := fun us1 e_us1 => by subst e_us1; exact (
          b_X12_clause_121  (g4 c1 c3 c6) (
          b_X12_clause_125  (fun c17' => have c17 : ¬(z4 = true) := b2f c17'; (k4 c1 c3 c6 c17)) (fun c18' => have c18 : z4 = true := b2t c18'; 
            b_X12_clause_128  (g5 c1 c3 c6 c18) (
            b_X12_clause_132  ((k5 c1 c3 c6 c18))))))
        
        b_X12_clause_106  (fun (c14 : I 156 17 ≠ 6) => 
          b_X12_clause_120  (K15 0 (if_neg c14).symm)) (fun (c15 : I 156 17 = 6) => 
          b_X12_clause_116  (K15 1 (if_pos c15).symm)))) (fun (c4 : (kwM I) = 1) => 
      have K22 : ∀ us1 : Int, us1 = (if (0 < I 156 16) ∧ (I 162 ((20 * (I 156 16 - 1)) + 10).toNat = 4) then (1 : Int) else 0) → Ev (d + 6) mX12_clause (76, [some (vR (some (22, 0, 156))), some (vI (kwM I))], [vI us1, vR (some (22, 0, 156))], (I, S)) (.inl none, h1) := fun us1 e_us1 => by subst e_us1; exact (
        have K25 : ∀ us2 : Int, us2 = (if I 156 16 = 0 then (1 : Int) else 0) → Ev (d + 6) mX12_clause (88, [some (vR (some (22, 0, 156))), some (vI (kwM I))], [vI us2, vI (if (0 < I 156 16) ∧ (I 162 ((20 * (I 156 16 - 1)) + 10).toNat = 4) then (1 : Int) else 0), vR (some (22, 0, 156))], (I, S)) (.inl none, h1) := fun us2 e_us2 => by subst e_us2; exact (
          b_X12_clause_88  (g6 c1 c4) (
          b_X12_clause_91  (fun c27' => have c27 : ¬(z6 = true) := b2f c27'; (k6 c1 c4 c27)) (fun c28' => have c28 : z6 = true := b2t c28'; 
            b_X12_clause_94  (g7 c1 c4 c28) (
            b_X12_clause_98  ((k7 c1 c4 c28))))))
        
        b_X12_clause_76  (fun (c24 : I 156 16 ≠ 0) => 
          b_X12_clause_87  (K25 0 (if_neg c24).symm)) (fun (c25 : I 156 16 = 0) => 
          b_X12_clause_83  (K25 1 (if_pos c25).symm)))
      
      b_X12_clause_42  (fun (c19 : I 156 16 ≤ 0) => 
        b_X12_clause_75  (K22 0 (if_neg (fun q => (Int.not_lt.mpr c19) q.1)).symm)) (fun (c20 : 0 < I 156 16) => 
        b_X12_clause_50 (ly_X12_22 hl0) (v1 c1 c4 c20) (v2 c1 c4 c20) (v3 c1 c4 c20) (v4 c1 c4 c20) (fun (c21 : I 162 ((20 * (I 156 16 - 1)) + 10).toNat ≠ 4) => 
          b_X12_clause_75  (K22 0 (if_neg (fun q => c21 q.2)).symm)) (fun (c22 : I 162 ((20 * (I 156 16 - 1)) + 10).toNat = 4) => 
          b_X12_clause_71  (K22 1 (if_pos ⟨c20, c22⟩).symm))))) (fun (c2 : (kwM I) = 0) => 
    have K30 : ∀ us1 : Int, us1 = (if I 156 16 = 4 then (1 : Int) else 0) → Ev (d + 6) mX12_clause (23, [some (vR (some (22, 0, 156))), some (vI (kwM I))], [vI us1, vR (some (22, 0, 156))], (I, S)) (.inl none, h1) := fun us1 e_us1 => by subst e_us1; exact (
      b_X12_clause_23  (g8 c2) (
      b_X12_clause_27  (fun c32' => have c32 : ¬(z8 = true) := b2f c32'; (k8 c2 c32)) (fun c33' => have c33 : z8 = true := b2t c33'; 
        b_X12_clause_30  (g9 c2 c33) (
        b_X12_clause_34  ((k9 c2 c33))))))
    
    b_X12_clause_9  (fun (c29 : I 156 16 ≠ 4) => 
      b_X12_clause_22  (K30 0 (if_neg c29).symm)) (fun (c30 : I 156 16 = 4) => 
      b_X12_clause_18  (K30 1 (if_pos c30).symm)))))
theorem w_X12_clause_175 {d : Nat} {I : Nat → Nat → Int} {S : PS} {x1 : Int} {J1 : Nat → Nat → Int} {h1 : PM} (hl0 : LyX12 S)
    (g1 : Ca (d + 5) mX12_need [vR (some (22, 0, 156)), vI (if I 156 8 = 3 then (1 : Int) else 0)] (I, S) (.inl none) (J1, S))
    (e1 : (J1, S) = h1 := by intros; first | rfl | (exfalso; omega) | contradiction | (exfalso; simp_all; done)) : L_X12_clause_175 d 156 x1 I S h1 :=
  
  have K2 : ∀ us1 : Int, us1 = (if I 156 8 = 3 then (1 : Int) else 0) → Ev (d + 6) mX12_clause (189, [some (vR (some (22, 0, 156))), some (vI x1)], [vI us1, vR (some (22, 0, 156))], (I, S)) (.inl none, h1) := fun us1 e_us1 => by subst e_us1; exact (
    b_X12_clause_189  g1 (ev_retV e1 (b_X12_clause_192 )))
  
  b_X12_clause_175  (fun (c1 : I 156 8 ≠ 3) => 
    b_X12_clause_188  (K2 0 (if_neg c1).symm)) (fun (c2 : I 156 8 = 3) => 
    b_X12_clause_184  (K2 1 (if_pos c2).symm))
abbrev L_X5_read_8 (d : Nat) (a0 : Nat) (a1 : Nat) (x2 : Int) (x3 : Int) (I : Nat → Nat → Int) (S : PS) (v : Int) (h1 : PM) : Prop := Ev (d + 6) mX5_read (8, [some (vR (some (20, 0, a0))), some (vR (some (11, 0, a1))), some (vI x2), some (vI x3)], [], (I, S)) (.inl (some (vI v)), h1)
abbrev L_X5_read_117 (d : Nat) (a0 : Nat) (a1 : Nat) (x2 : Int) (x3 : Int) (I : Nat → Nat → Int) (S : PS) (v : Int) (h1 : PM) : Prop := Ev (d + 6) mX5_read (117, [some (vR (some (20, 0, a0))), some (vR (some (11, 0, a1))), some (vI x2), some (vI x3)], [], (I, S)) (.inl (some (vI v)), h1)
theorem w_X5_read_0 {d : Nat} {I : Nat → Nat → Int} {S : PS} {a1 : Nat} {v : Int} {h1 : PM} (hl0 : LyX10 S) (hl1 : LyX0 S a1)
    (k1 : L_X5_read_8 d 32 a1 0 0 (up2 (up2 (up2 I a1 1 0) (a1 + 2) 0 0) a1 6 0) S v h1) : Ca (d + 6) mX5_read [vR (some (20, 0, 32)), vR (some (11, 0, a1))] (I, S) (.inl (some (vI v))) h1 :=
  Ca.of rfl rfl (
  b_X5_read_0  (c_X0_clear hl1) (
  b_X5_read_4  (k1)))
theorem w_X5_read_8 {d : Nat} {I : Nat → Nat → Int} {S : PS} {a1 : Nat} {x2 x3 z2 z3 z4 z5 : Int} {J1 J2 J3 J4 J5 J6 : Nat → Nat → Int} {z6 : Bool} {v : Int} {h1 : PM} (hl0 : LyX10 S) (hl1 : LyX0 S a1)
    (g1 : (x3 ≤ 700) → (x2 = 0) → Ca (d + 5) mX10_advance [vR (some (20, 0, 32))] (I, S) (.inl none) (J1, S))
    (k1 : (x3 ≤ 700) → (x2 = 0) → (J1 32 3 ≠ 0) → (¬(iwC J1 5 4 = true)) → (¬(iwC J1 4 6 = true)) → (¬(iwC J1 4 8 = true)) → (¬(iwC J1 4 10 = true)) → L_X5_read_117 d 32 a1 1 x3 J1 S v h1)
    (g2 : (x3 ≤ 700) → (x2 = 0) → (J1 32 3 ≠ 0) → (¬(iwC J1 5 4 = true)) → (¬(iwC J1 4 6 = true)) → (¬(iwC J1 4 8 = true)) → (iwC J1 4 10 = true) → Ca (d + 5) mX5_readSpot [vR (some (20, 0, 32)), vR (some (11, 0, a1))] (J1, S) (.inl (some (vI z2))) (J2, S))
    (k2 : (x3 ≤ 700) → (x2 = 0) → (J1 32 3 ≠ 0) → (¬(iwC J1 5 4 = true)) → (¬(iwC J1 4 6 = true)) → (¬(iwC J1 4 8 = true)) → (iwC J1 4 10 = true) → L_X5_read_117 d 32 a1 z2 x3 J2 S v h1)
    (g3 : (x3 ≤ 700) → (x2 = 0) → (J1 32 3 ≠ 0) → (¬(iwC J1 5 4 = true)) → (¬(iwC J1 4 6 = true)) → (iwC J1 4 8 = true) → Ca (d + 5) mX5_readRule [vR (some (20, 0, 32)), vR (some (11, 0, a1))] (J1, S) (.inl (some (vI z3))) (J3, S))
    (k3 : (x3 ≤ 700) → (x2 = 0) → (J1 32 3 ≠ 0) → (¬(iwC J1 5 4 = true)) → (¬(iwC J1 4 6 = true)) → (iwC J1 4 8 = true) → L_X5_read_117 d 32 a1 z3 x3 J3 S v h1)
    (g4 : (x3 ≤ 700) → (x2 = 0) → (J1 32 3 ≠ 0) → (¬(iwC J1 5 4 = true)) → (iwC J1 4 6 = true) → Ca (d + 5) mX5_readJoin [vR (some (20, 0, 32)), vR (some (11, 0, a1))] (J1, S) (.inl (some (vI z4))) (J4, S))
    (k4 : (x3 ≤ 700) → (x2 = 0) → (J1 32 3 ≠ 0) → (¬(iwC J1 5 4 = true)) → (iwC J1 4 6 = true) → L_X5_read_117 d 32 a1 z4 x3 J4 S v h1)
    (g5 : (x3 ≤ 700) → (x2 = 0) → (J1 32 3 ≠ 0) → (iwC J1 5 4 = true) → Ca (d + 5) mX5_readPiece [vR (some (20, 0, 32)), vR (some (11, 0, a1))] (J1, S) (.inl (some (vI z5))) (J5, S))
    (k5 : (x3 ≤ 700) → (x2 = 0) → (J1 32 3 ≠ 0) → (iwC J1 5 4 = true) → L_X5_read_117 d 32 a1 z5 x3 J5 S v h1)
    (g6 : (x3 ≤ 700) → (x2 = 0) → (J1 32 3 = 0) → Ca (d + 5) mX0_isMap [vR (some (11, 0, a1))] (J1, S) (.inl (some (vI (if z6 = true then (1 : Int) else 0)))) (J6, S))
    (r1 : (700 < x3) → x2 = v)
    (e1 : (700 < x3) → (I, S) = h1 := by intros; first | rfl | (exfalso; omega) | contradiction | (exfalso; simp_all; done))
    (r2 : (x3 ≤ 700) → (x2 ≠ 0) → x2 = v)
    (e2 : (x3 ≤ 700) → (x2 ≠ 0) → (I, S) = h1 := by intros; first | rfl | (exfalso; omega) | contradiction | (exfalso; simp_all; done))
    (r3 : (x3 ≤ 700) → (x2 = 0) → (J1 32 3 = 0) → (if ¬(z6 = true) then (6 : Int) else 0) = v)
    (e3 : (x3 ≤ 700) → (x2 = 0) → (J1 32 3 = 0) → (J6, S) = h1 := by intros; first | rfl | (exfalso; omega) | contradiction | (exfalso; simp_all; done))
    (v1 : (x3 ≤ 700) → (x2 = 0) → (J1 32 3 ≠ 0) → strs J1 S := by intros; first | assumption | omega | (split <;> omega))
    (v2 : (x3 ≤ 700) → (x2 = 0) → (J1 32 3 ≠ 0) → 0 ≤ J1 32 4 ∧ J1 32 4 ≤ 700 ∧ 0 ≤ J1 32 2 ∧ J1 32 2 ≤ 700 := by intros; first | assumption | omega | (split <;> omega)) : L_X5_read_8 d 32 a1 x2 x3 I S v h1 :=
  
  b_X5_read_8  (fun (c1 : 700 < x3) => ev_ret2 (r1 c1) (e1 c1) (b_X5_read_123 )) (fun (c2 : x3 ≤ 700) => 
    b_X5_read_15  (fun (c3 : x2 ≠ 0) => ev_ret2 (r2 c2 c3) (e2 c2 c3) (b_X5_read_123 )) (fun (c4 : x2 = 0) => 
      b_X5_read_19  (g1 c2 c4) (
      b_X5_read_23  (fun (c5 : J1 32 3 ≠ 0) => 
        b_X5_read_44  (c_X10_isWord hl0 (v1 c2 c4 c5) (by decide) (v2 c2 c4 c5)) (
        b_X5_read_50  (fun c7' => have c7 : ¬(iwC J1 5 4 = true) := b2f c7'; 
          b_X5_read_62  (c_X10_isWord hl0 (v1 c2 c4 c5) (by decide) (v2 c2 c4 c5)) (
          b_X5_read_68  (fun c9' => have c9 : ¬(iwC J1 4 6 = true) := b2f c9'; 
            b_X5_read_80  (c_X10_isWord hl0 (v1 c2 c4 c5) (by decide) (v2 c2 c4 c5)) (
            b_X5_read_86  (fun c11' => have c11 : ¬(iwC J1 4 8 = true) := b2f c11'; 
              b_X5_read_98  (c_X10_isWord hl0 (v1 c2 c4 c5) (by decide) (v2 c2 c4 c5)) (
              b_X5_read_104  (fun c13' => have c13 : ¬(iwC J1 4 10 = true) := b2f c13'; 
                b_X5_read_115  (
                b_X5_read_116  ((k1 c2 c4 c5 c7 c9 c11 c13)))) (fun c14' => have c14 : iwC J1 4 10 = true := b2t c14'; 
                b_X5_read_107  (g2 c2 c4 c5 c7 c9 c11 c14) (
                b_X5_read_112  (
                b_X5_read_116  ((k2 c2 c4 c5 c7 c9 c11 c14))))))) (fun c12' => have c12 : iwC J1 4 8 = true := b2t c12'; 
              b_X5_read_89  (g3 c2 c4 c5 c7 c9 c12) (
              b_X5_read_94  ((k3 c2 c4 c5 c7 c9 c12)))))) (fun c10' => have c10 : iwC J1 4 6 = true := b2t c10'; 
            b_X5_read_71  (g4 c2 c4 c5 c7 c10) (
            b_X5_read_76  ((k4 c2 c4 c5 c7 c10)))))) (fun c8' => have c8 : iwC J1 5 4 = true := b2t c8'; 
          b_X5_read_53  (g5 c2 c4 c5 c8) (
          b_X5_read_58  ((k5 c2 c4 c5 c8)))))) (fun (c6 : J1 32 3 = 0) => 
        b_X5_read_30  (g6 c2 c4 c6) (
        have K16 : ∀ us0 : Int, us0 = (if ¬(z6 = true) then (6 : Int) else 0) → Ev (d + 6) mX5_read (43, [some (vR (some (20, 0, 32))), some (vR (some (11, 0, a1))), some (vI x2), some (vI x3)], [vI us0], (J6, S)) (.inl (some (vI v)), h1) := fun us0 e_us0 => by subst e_us0; exact (ev_ret2 (r3 c2 c4 c6) (e3 c2 c4 c6) (b_X5_read_43 ))
        
        b_X5_read_34  (fun c15' => have c15 : ¬(z6 = true) := b2f c15'; 
          b_X5_read_41  (K16 6 ((if_pos c15).symm))) (fun c16' => have c16 : z6 = true := b2t c16'; 
          b_X5_read_37  (K16 0 ((if_neg (fun q => q c16)).symm))))))))
theorem w_X5_read_117 {d : Nat} {I : Nat → Nat → Int} {S : PS} {a1 : Nat} {x2 x3 : Int} {v : Int} {h1 : PM} (hl0 : LyX10 S) (hl1 : LyX0 S a1)
    (k1 : L_X5_read_8 d 32 a1 x2 (x3 + 1) I S v h1)
    (v1 : -2147483648 ≤ x3 + 1 ∧ x3 + 1 ≤ 2147483647 := by intros; first | assumption | omega | (split <;> omega)) : L_X5_read_117 d 32 a1 x2 x3 I S v h1 :=
  
  b_X5_read_117 v1 (k1)
abbrev L_X12_atlas_32 (d : Nat) (a0 : Nat) (x1 : Int) (I : Nat → Nat → Int) (S : PS) (v : Int) (h1 : PM) : Prop := Ev (d + 8) mX12_atlas (32, [some (vR (some (22, 0, a0))), some (vI x1), none], [], (I, S)) (.inl (some (vI v)), h1)
abbrev L_X12_atlas_76 (d : Nat) (a0 : Nat) (x1 : Int) (I : Nat → Nat → Int) (S : PS) (v : Int) (h1 : PM) : Prop := Ev (d + 8) mX12_atlas (76, [some (vR (some (22, 0, a0))), some (vI x1), none], [], (I, S)) (.inl (some (vI v)), h1)
abbrev L_X12_atlas_97 (d : Nat) (a0 : Nat) (x1 : Int) (I : Nat → Nat → Int) (S : PS) (v : Int) (h1 : PM) : Prop := Ev (d + 8) mX12_atlas (97, [some (vR (some (22, 0, a0))), some (vI x1), none], [], (I, S)) (.inl (some (vI v)), h1)
abbrev L_X12_atlas_117 (d : Nat) (a0 : Nat) (x1 : Int) (I : Nat → Nat → Int) (S : PS) (v : Int) (h1 : PM) : Prop := Ev (d + 8) mX12_atlas (117, [some (vR (some (22, 0, a0))), some (vI x1), none], [], (I, S)) (.inl (some (vI v)), h1)
abbrev L_X12_atlas_139 (d : Nat) (a0 : Nat) (x1 : Int) (I : Nat → Nat → Int) (S : PS) (v : Int) (h1 : PM) : Prop := Ev (d + 8) mX12_atlas (139, [some (vR (some (22, 0, a0))), some (vI x1), none], [], (I, S)) (.inl (some (vI v)), h1)
abbrev L_X12_atlas_187 (d : Nat) (a0 : Nat) (x1 : Int) (I : Nat → Nat → Int) (S : PS) (v : Int) (h1 : PM) : Prop := Ev (d + 8) mX12_atlas (187, [some (vR (some (22, 0, a0))), some (vI x1), none], [], (I, S)) (.inl (some (vI v)), h1)
abbrev L_X12_atlas_211 (d : Nat) (a0 : Nat) (x1 : Int) (I : Nat → Nat → Int) (S : PS) (v : Int) (h1 : PM) : Prop := Ev (d + 8) mX12_atlas (211, [some (vR (some (22, 0, a0))), some (vI x1), none], [], (I, S)) (.inl (some (vI v)), h1)
abbrev L_X12_atlas_213 (d : Nat) (a0 : Nat) (x1 : Int) (x2 : Int) (I : Nat → Nat → Int) (S : PS) (v : Int) (h1 : PM) : Prop := Ev (d + 8) mX12_atlas (213, [some (vR (some (22, 0, a0))), some (vI x1), some (vI x2)], [], (I, S)) (.inl (some (vI v)), h1)
abbrev L_X12_atlas_234 (d : Nat) (a0 : Nat) (x1 : Int) (x2 : Int) (I : Nat → Nat → Int) (S : PS) (v : Int) (h1 : PM) : Prop := Ev (d + 8) mX12_atlas (234, [some (vR (some (22, 0, a0))), some (vI x1), some (vI x2)], [], (I, S)) (.inl (some (vI v)), h1)
abbrev L_X12_atlas_278 (d : Nat) (a0 : Nat) (x1 : Int) (x2 : Int) (I : Nat → Nat → Int) (S : PS) (v : Int) (h1 : PM) : Prop := Ev (d + 8) mX12_atlas (278, [some (vR (some (22, 0, a0))), some (vI x1), some (vI x2)], [], (I, S)) (.inl (some (vI v)), h1)
abbrev L_X12_atlas_297 (d : Nat) (a0 : Nat) (x1 : Int) (x2 : Int) (I : Nat → Nat → Int) (S : PS) (v : Int) (h1 : PM) : Prop := Ev (d + 8) mX12_atlas (297, [some (vR (some (22, 0, a0))), some (vI x1), some (vI x2)], [], (I, S)) (.inl (some (vI v)), h1)
theorem w_X12_atlas_0 {d : Nat} {I : Nat → Nat → Int} {S : PS} {x1 : Int} {v : Int} {h1 : PM} (hl0 : LyX12 S)
    (k1 : (((0 ≤ x1) ∧ (x1 ≤ I 156 2))) → L_X12_atlas_32 d 156 x1 (up2 I 156 0 0) S v h1)
    (r1 : (¬((0 ≤ x1) ∧ (x1 ≤ I 156 2))) → 0 = v)
    (e1 : (¬((0 ≤ x1) ∧ (x1 ≤ I 156 2))) → ((up2 (up2 I 156 0 0) 156 0 1), S) = h1 := by intros; first | rfl | (exfalso; omega) | contradiction | (exfalso; simp_all; done)) : Ca (d + 8) mX12_atlas [vR (some (22, 0, 156)), vI x1] (I, S) (.inl (some (vI v))) h1 :=
  Ca.of rfl rfl (
  have K4 : ∀ us1 : Int, us1 = (if (0 ≤ x1) ∧ (x1 ≤ I 156 2) then (1 : Int) else 0) → Ev (d + 8) mX12_atlas (23, [some (vR (some (22, 0, 156))), some (vI x1), none], [vI us1, vR (some (22, 0, 156))], ((up2 I 156 0 0), S)) (.inl (some (vI v)), h1) := fun us1 e_us1 => by subst e_us1; exact (
    (Classical.em (((0 ≤ x1) ∧ (x1 ≤ I 156 2)))).elim (fun c6 => 
      b_X12_atlas_23  (c_X12_right_y (b1 := (0 ≤ x1) ∧ (x1 ≤ I 156 2)) hl0 (by first | decide | exact (show 0 = 0 from by decide)) (by first | decide | exact (show (1 : Int) ≠ 0 from by decide)) c6) (
      b_X12_atlas_27  (fun _ => (k1 c6)) (fun c => absurd c (by decide)))) (fun c7 => 
      b_X12_atlas_23  (c_X12_right_n (b1 := (0 ≤ x1) ∧ (x1 ≤ I 156 2)) hl0 (by first | decide | exact (show 0 = 0 from by decide)) (by first | decide | exact (show (1 : Int) ≠ 0 from by decide)) c7) (
      b_X12_atlas_27  (fun c => absurd c (by decide)) (fun _ => ev_ret2 (r1 c7) (e1 c7) (b_X12_atlas_30 )))))
  
  b_X12_atlas_0  (fun (c1 : x1 < 0) => 
    b_X12_atlas_22  (K4 0 (if_neg (fun q => (Int.not_le.mpr c1) q.1)).symm)) (fun (c2 : 0 ≤ x1) => 
    b_X12_atlas_10  (fun (c3 : I 156 2 < x1) => 
      b_X12_atlas_22  (K4 0 (if_neg (fun q => (Int.not_le.mpr c3) q.2)).symm)) (fun (c4 : x1 ≤ I 156 2) => 
      b_X12_atlas_18  (K4 1 (if_pos ⟨c2, c4⟩).symm))))
theorem w_X12_atlas_32 {d : Nat} {I : Nat → Nat → Int} {S : PS} {x1 : Int} {J1 : Nat → Nat → Int} {v : Int} {h1 : PM} (hl0 : LyX12 S)
    (g1 : Ca (d + 7) mX12_goes [vR (some (22, 0, 156))] ((up2 (up2 (up2 (up2 (up2 (up2 (up2 (up2 I 156 2 0) 156 4 (-1)) 156 3 0) 156 6 x1) 156 7 0) 156 16 0) 156 17 0) 156 18 0), S) (.inl none) (J1, S))
    (k1 : L_X12_atlas_76 d 156 x1 J1 S v h1) : L_X12_atlas_32 d 156 x1 I S v h1 :=
  
  b_X12_atlas_32  g1 (k1)
theorem w_X12_atlas_76 {d : Nat} {I : Nat → Nat → Int} {S : PS} {x1 : Int} {J1 : Nat → Nat → Int} {v : Int} {h1 : PM} (hl0 : LyX12 S)
    (k1 : (¬(I 156 3 = 0)) → L_X12_atlas_97 d 156 x1 I S v h1)
    (k2 : (I 156 3 = 0) → (I 156 8 = 0) → L_X12_atlas_97 d 156 x1 I S v h1)
    (g1 : (I 156 3 = 0) → (I 156 8 ≠ 0) → Ca (d + 7) mX12_clause [vR (some (22, 0, 156))] (I, S) (.inl none) (J1, S))
    (k3 : (I 156 3 = 0) → (I 156 8 ≠ 0) → L_X12_atlas_76 d 156 x1 J1 S v h1) : L_X12_atlas_76 d 156 x1 I S v h1 :=
  
  b_X12_atlas_76  (c_X12_isGood hl0) (
  b_X12_atlas_80  (fun c1' => have c1 : ¬(I 156 3 = 0) := b2f c1'; (k1 c1)) (fun c2' => have c2 : I 156 3 = 0 := b2t c2'; 
    b_X12_atlas_83  (fun (c3 : I 156 8 = 0) => (k2 c2 c3)) (fun (c4 : I 156 8 ≠ 0) => 
      b_X12_atlas_90  (g1 c2 c4) (
      b_X12_atlas_94  ((k3 c2 c4))))))
theorem w_X12_atlas_97 {d : Nat} {I : Nat → Nat → Int} {S : PS} {x1 : Int} {J1 J2 : Nat → Nat → Int} {z1 : Bool} {v : Int} {h1 : PM} (hl0 : LyX12 S)
    (k1 : (¬(I 156 3 = 0)) → L_X12_atlas_117 d 156 x1 I S v h1)
    (g1 : (I 156 3 = 0) → Ca (d + 7) mX12_isMap [vR (some (22, 0, 156))] (I, S) (.inl (some (vI (if z1 = true then (1 : Int) else 0)))) (J1, S))
    (k2 : (I 156 3 = 0) → (z1 = true) → L_X12_atlas_117 d 156 x1 J1 S v h1)
    (g2 : (I 156 3 = 0) → (¬(z1 = true)) → Ca (d + 7) mX12_wrong [vR (some (22, 0, 156)), vI 6] (J1, S) (.inl none) (J2, S))
    (k3 : (I 156 3 = 0) → (¬(z1 = true)) → L_X12_atlas_117 d 156 x1 J2 S v h1) : L_X12_atlas_97 d 156 x1 I S v h1 :=
  
  b_X12_atlas_97  (c_X12_isGood hl0) (
  b_X12_atlas_101  (fun c1' => have c1 : ¬(I 156 3 = 0) := b2f c1'; (k1 c1)) (fun c2' => have c2 : I 156 3 = 0 := b2t c2'; 
    b_X12_atlas_104  (g1 c2) (
    b_X12_atlas_108  (fun c3' => have c3 : z1 = true := b2t c3'; (k2 c2 c3)) (fun c4' => have c4 : ¬(z1 = true) := b2f c4'; 
      b_X12_atlas_111  (g2 c2 c4) ((k3 c2 c4))))))
theorem w_X12_atlas_117 {d : Nat} {I : Nat → Nat → Int} {S : PS} {x1 : Int} {v : Int} {h1 : PM} (hl0 : LyX12 S)
    (k1 : (I 156 3 = 0) → L_X12_atlas_139 d 156 x1 I S v h1)
    (r1 : (¬(I 156 3 = 0)) → I 156 3 = v)
    (e1 : (¬(I 156 3 = 0)) → ((up2 I 158 0 (I 158 0 + 1)), S) = h1 := by intros; first | rfl | (exfalso; omega) | contradiction | (exfalso; simp_all; done))
    (v1 : (¬(I 156 3 = 0)) → -2147483648 ≤ I 158 0 + 1 ∧ I 158 0 + 1 ≤ 2147483647 := by intros; first | assumption | omega | (split <;> omega)) : L_X12_atlas_117 d 156 x1 I S v h1 :=
  
  b_X12_atlas_117  (c_X12_isGood hl0) (
  b_X12_atlas_121  (fun c1' => have c1 : I 156 3 = 0 := b2t c1'; (k1 c1)) (fun c2' => have c2 : ¬(I 156 3 = 0) := b2f c2'; ev_ret2 (r1 c2) (e1 c2) (b_X12_atlas_124 (ly_X12_5 hl0) (by decide) (v1 c2) (by decide))))
theorem w_X12_atlas_139 {d : Nat} {I : Nat → Nat → Int} {S : PS} {x1 : Int} {v : Int} {h1 : PM} (hl0 : LyX12 S)
    (k1 : L_X12_atlas_187 d 156 x1 (up1 (up1 (up2 (up2 (up2 I 156 13 (I 156 16)) 156 14 (I 156 17)) 156 15 (I 156 18)) 159 (upTo ((up2 (up2 (up2 I 156 13 (I 156 16)) 156 14 (I 156 17)) 156 15 (I 156 18)) 159) ((up2 (up2 (up2 I 156 13 (I 156 16)) 156 14 (I 156 17)) 156 15 (I 156 18)) 162) 0 80)) 160 (upTo ((up1 (up2 (up2 (up2 I 156 13 (I 156 16)) 156 14 (I 156 17)) 156 15 (I 156 18)) 159 (upTo ((up2 (up2 (up2 I 156 13 (I 156 16)) 156 14 (I 156 17)) 156 15 (I 156 18)) 159) ((up2 (up2 (up2 I 156 13 (I 156 16)) 156 14 (I 156 17)) 156 15 (I 156 18)) 162) 0 80)) 160) ((up1 (up2 (up2 (up2 I 156 13 (I 156 16)) 156 14 (I 156 17)) 156 15 (I 156 18)) 159 (upTo ((up2 (up2 (up2 I 156 13 (I 156 16)) 156 14 (I 156 17)) 156 15 (I 156 18)) 159) ((up2 (up2 (up2 I 156 13 (I 156 16)) 156 14 (I 156 17)) 156 15 (I 156 18)) 162) 0 80)) 163) 0 48)) S v h1) : L_X12_atlas_139 d 156 x1 I S v h1 :=
  
  b_X12_atlas_139 (ly_X12_22 hl0) (ly_X12_19 hl0) (c_X12_copies hl0 (by decide) (by decide) (by first | decide | exact (show 162 ≠ 159 from by decide))) (
  b_X12_atlas_175 (ly_X12_23 hl0) (ly_X12_20 hl0) (c_X12_copies hl0 (by decide) (by decide) (by first | decide | exact (show 163 ≠ 160 from by decide))) (k1))
theorem w_X12_atlas_187 {d : Nat} {I : Nat → Nat → Int} {S : PS} {x1 : Int} {v : Int} {h1 : PM} (hl0 : LyX12 S)
    (k1 : L_X12_atlas_211 d 156 x1 (up1 (up1 I 161 (upTo (I 161) (I 164) 0 120)) 165 (upTo ((up1 I 161 (upTo (I 161) (I 164) 0 120)) 165) ((up1 I 161 (upTo (I 161) (I 164) 0 120)) 166) 0 60)) S v h1) : L_X12_atlas_187 d 156 x1 I S v h1 :=
  
  b_X12_atlas_187 (ly_X12_24 hl0) (ly_X12_21 hl0) (c_X12_copies hl0 (by decide) (by decide) (by first | decide | exact (show 164 ≠ 161 from by decide))) (
  b_X12_atlas_199 (ly_X12_26 hl0) (ly_X12_25 hl0) (c_X12_copies hl0 (by decide) (by decide) (by first | decide | exact (show 166 ≠ 165 from by decide))) (k1))
theorem w_X12_atlas_211 {d : Nat} {I : Nat → Nat → Int} {S : PS} {x1 : Int} {v : Int} {h1 : PM} (hl0 : LyX12 S)
    (k1 : L_X12_atlas_213 d 156 x1 0 I S v h1) : L_X12_atlas_211 d 156 x1 I S v h1 :=
  
  b_X12_atlas_211  (k1)
theorem w_X12_atlas_213 {d : Nat} {I : Nat → Nat → Int} {S : PS} {x1 x2 : Int} {v : Int} {h1 : PM} (hl0 : LyX12 S)
    (k1 : (12 ≤ x2) → L_X12_atlas_234 d 156 x1 0 I S v h1)
    (k2 : (x2 < 12) → L_X12_atlas_213 d 156 x1 (x2 + 1) (up2 I 178 (x2.toNat) (-1)) S v h1)
    (v1 : (x2 < 12) → 0 ≤ x2 ∧ x2 < (36 : Nat) := by intros; first | assumption | omega | (split <;> omega))
    (v2 : (x2 < 12) → -2147483648 ≤ x2 + 1 ∧ x2 + 1 ≤ 2147483647 := by intros; first | assumption | omega | (split <;> omega)) : L_X12_atlas_213 d 156 x1 x2 I S v h1 :=
  
  b_X12_atlas_213  (fun (c1 : 12 ≤ x2) => 
    b_X12_atlas_232  ((k1 c1))) (fun (c2 : x2 < 12) => 
    b_X12_atlas_219 (ly_X12_39 hl0) (v1 c2) (v2 c2) ((k2 c2)))
theorem w_X12_atlas_234 {d : Nat} {I : Nat → Nat → Int} {S : PS} {x1 x2 : Int} {v : Int} {h1 : PM} (hl0 : LyX12 S)
    (k1 : (6 ≤ x2) → L_X12_atlas_278 d 156 x1 0 I S v h1)
    (k2 : (x2 < 6) → L_X12_atlas_234 d 156 x1 (x2 + 1) (up2 I 178 ((12 + x2).toNat) (if I 156 14 ≤ x2 then (0 : Int) else I 160 (8 * x2).toNat)) S v h1)
    (v1 : (x2 < 6) → -2147483648 ≤ 12 + x2 ∧ 12 + x2 ≤ 2147483647 := by intros; first | assumption | omega | (split <;> omega))
    (v2 : (x2 < 6) → (x2 < I 156 14) → -2147483648 ≤ 8 * x2 ∧ 8 * x2 ≤ 2147483647 := by intros; first | assumption | omega | (split <;> omega))
    (v3 : (x2 < 6) → (x2 < I 156 14) → 0 ≤ 8 * x2 ∧ 8 * x2 < (48 : Nat) := by intros; first | assumption | omega | (split <;> omega))
    (v4 : (x2 < 6) → 0 ≤ 12 + x2 ∧ 12 + x2 < (36 : Nat) := by intros; first | assumption | omega | (split <;> omega))
    (v5 : (x2 < 6) → -2147483648 ≤ x2 + 1 ∧ x2 + 1 ≤ 2147483647 := by intros; first | assumption | omega | (split <;> omega)) : L_X12_atlas_234 d 156 x1 x2 I S v h1 :=
  
  b_X12_atlas_234  (fun (c1 : 6 ≤ x2) => 
    b_X12_atlas_276  ((k1 c1))) (fun (c2 : x2 < 6) => 
    have K4 : ∀ us2 : Int, us2 = (if I 156 14 ≤ x2 then (0 : Int) else I 160 (8 * x2).toNat) → Ev (d + 8) mX12_atlas (269, [some (vR (some (22, 0, 156))), some (vI x1), some (vI x2)], [vI us2, vI (12 + x2), vR (some (0, 36, 178))], (I, S)) (.inl (some (vI v)), h1) := fun us2 e_us2 => by subst e_us2; exact (
      b_X12_atlas_269 (v4 c2) (v5 c2) ((k2 c2)))
    
    b_X12_atlas_240 (ly_X12_39 hl0) (v1 c2) (fun (c3 : I 156 14 ≤ x2) => 
      b_X12_atlas_268  (K4 0 ((if_pos c3).symm))) (fun (c4 : x2 < I 156 14) => 
      b_X12_atlas_256 (ly_X12_20 hl0) (v2 c2 c4) (v3 c2 c4) (K4 (I 160 (8 * x2).toNat) ((if_neg (Int.not_le.mpr c4)).symm))))
theorem w_X12_atlas_278 {d : Nat} {I : Nat → Nat → Int} {S : PS} {x1 x2 : Int} {J1 : Nat → Nat → Int} {v : Int} {h1 : PM} (hl0 : LyX12 S)
    (k1 : (I 156 13 ≤ x2) → L_X12_atlas_297 d 156 x1 x2 I S v h1)
    (g1 : (x2 < I 156 13) → Ca (d + 7) mX12_laysPiece [vR (some (22, 0, 156)), vI x2] (I, S) (.inl none) (J1, S))
    (k2 : (x2 < I 156 13) → L_X12_atlas_278 d 156 x1 (x2 + 1) J1 S v h1)
    (v1 : (x2 < I 156 13) → -2147483648 ≤ x2 + 1 ∧ x2 + 1 ≤ 2147483647 := by intros; first | assumption | omega | (split <;> omega)) : L_X12_atlas_278 d 156 x1 x2 I S v h1 :=
  
  b_X12_atlas_278  (fun (c1 : I 156 13 ≤ x2) => (k1 c1)) (fun (c2 : x2 < I 156 13) => 
    b_X12_atlas_286  (g1 c2) (
    b_X12_atlas_291 (v1 c2) ((k2 c2))))
theorem w_X12_atlas_297 {d : Nat} {I : Nat → Nat → Int} {S : PS} {x1 x2 : Int} {v : Int} {h1 : PM} (hl0 : LyX12 S)
    (r1 : 0 = v)
    (e1 : ((up2 (up2 (up2 (up2 (up2 I 156 41 0) 156 56 0) 156 59 0) 156 47 0) 156 49 (-1)), S) = h1 := by intros; first | rfl | (exfalso; omega) | contradiction | (exfalso; simp_all; done)) : L_X12_atlas_297 d 156 x1 x2 I S v h1 :=
  ev_ret2 r1 e1 (b_X12_atlas_297 )
end
