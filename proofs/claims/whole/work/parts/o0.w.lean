noncomputable section
theorem w_X11_years_0 {d : Nat} {I : Nat → Nat → Int} {S : PS} {x1 x2 x3 z1 : Int} {T U : Nat} {J1 : Nat → Nat → Int} {r : PO × PM} (hl0 : LyX11 S T U)
    (g1 : (0 ≤ x3) → (x3 ≤ 2) → (0 ≤ x2) → (x2 ≤ 100) → Ca (d + 5) mX8_liveYears [vR (some (18, 0, 144)), vR (some (11, 0, T)), vI x1, vI x2] ((cpyI I (127 + 1) 0 (145 + 1) 0 4), S) (.inl (some (vI z1))) (J1, S))
    (r1 : (x3 < 0) → (.inr 1, (I, (exS S))) = r := by intros; first | rfl | (exfalso; omega) | contradiction | (exfalso; simp_all; done))
    (r2 : (0 ≤ x3) → (x3 ≤ 2) → (x2 < 0) → (.inr 0, (I, (exS S))) = r := by intros; first | rfl | (exfalso; omega) | contradiction | (exfalso; simp_all; done))
    (r3 : (0 ≤ x3) → (x3 ≤ 2) → (0 ≤ x2) → (x2 ≤ 100) → (x3 ≠ 0) → (x3 ≠ 1) → (.inl (some (vI (unl (J1 (145 + 1)) 4))), (J1, S)) = r := by intros; first | rfl | (exfalso; omega) | contradiction | (exfalso; simp_all; done))
    (r4 : (0 ≤ x3) → (x3 ≤ 2) → (0 ≤ x2) → (x2 ≤ 100) → (x3 ≠ 0) → (x3 = 1) → (.inl (some (vI z1)), (J1, S)) = r := by intros; first | rfl | (exfalso; omega) | contradiction | (exfalso; simp_all; done))
    (r5 : (0 ≤ x3) → (x3 ≤ 2) → (0 ≤ x2) → (x2 ≤ 100) → (x3 = 0) → (.inl (some (vI (bcn (p_or (p_or (p_or (J1 (145 + 1) 0) (J1 (145 + 1) 1)) (J1 (145 + 1) 2)) (J1 (145 + 1) 3)) 32))), (J1, S)) = r := by intros; first | rfl | (exfalso; omega) | contradiction | (exfalso; simp_all; done))
    (r6 : (0 ≤ x3) → (x3 ≤ 2) → (0 ≤ x2) → (100 < x2) → (.inr 0, (I, (exS S))) = r := by intros; first | rfl | (exfalso; omega) | contradiction | (exfalso; simp_all; done))
    (r7 : (0 ≤ x3) → (2 < x3) → (.inr 1, (I, (exS S))) = r := by intros; first | rfl | (exfalso; omega) | contradiction | (exfalso; simp_all; done)) : Ca (d + 6) mX11_years [vR (some (21, 0, 31)), vI x1, vI x2, vI x3] (I, S) r.1 r.2 :=
  Ca.of rfl rfl (
  b_X11_years_0  (fun (c1 : x3 < 0) => ev_eqr (r1 c1) (b_X11_years_9 )) (fun (c2 : 0 ≤ x3) => 
    b_X11_years_4  (fun (c3 : x3 ≤ 2) => 
      b_X11_years_17  (fun (c5 : x2 < 0) => ev_eqr (r2 c2 c3 c5) (b_X11_years_27 )) (fun (c6 : 0 ≤ x2) => 
        b_X11_years_21  (fun (c7 : x2 ≤ 100) => 
          b_X11_years_35 (ly_X11_9 hl0) (ly_X11_6 hl0) (ly_X9_0 (ly_X11_s hl0)) (c_X8_begin (ly_X11_e hl0) (ly_X9_p (ly_X11_s hl0))) (
          b_X11_years_49 (ly_X11_9 hl0) (ly_X11_2 hl0) (g1 c2 c3 c6 c7) (
          b_X11_years_62  (fun (c9 : x3 ≠ 0) => 
            b_X11_years_79  (fun (c11 : x3 ≠ 1) => 
              b_X11_years_89 (ly_X11_9 hl0) (ly_X8_0 (ly_X11_e hl0)) (c_X2_unlikeColours (ly_X8_p (ly_X11_e hl0))) (ev_eqr (r3 c2 c3 c6 c7 c9 c11) (b_X11_years_99 ))) (fun (c12 : x3 = 1) => 
              b_X11_years_84  (ev_eqr (r4 c2 c3 c6 c7 c9 c12) (b_X11_years_99 )))) (fun (c10 : x3 = 0) => 
            b_X11_years_68 (ly_X11_9 hl0) (ly_X8_0 (ly_X11_e hl0)) (c_X2_paintedCount (ly_X8_p (ly_X11_e hl0))) (ev_eqr (r5 c2 c3 c6 c7 c10) (b_X11_years_78 )))))) (fun (c8 : 100 < x2) => ev_eqr (r6 c2 c3 c6 c8) (b_X11_years_27 )))) (fun (c4 : 2 < x3) => ev_eqr (r7 c2 c4) (b_X11_years_9 ))))
theorem w_X12_extend_0 {d : Nat} {I : Nat → Nat → Int} {S : PS} {x1 x2 x3 : Int} {J1 J2 J3 : Nat → Nat → Int} {z1 z2 z3 : Bool} {v : Int} {h1 : PM} (hl0 : LyX12 S)
    (g1 : ((((((0 ≤ x1) ∧ (x1 < I 156 13)))) ∧ (((0 ≤ x2) ∧ (x2 < (up2 I 156 0 0) 167 x1.toNat))))) → (x3 < 0) → ((False)) → Ca (d + 4) mX12_doesExtend [vR (some (22, 0, 156)), vI x1, vI (I 168 ((96 * x1) + x2).toNat), vI 0] ((up2 I 156 0 0), S) (.inl (some (vI (if z1 = true then (1 : Int) else 0)))) (J1, S))
    (g2 : ((((((0 ≤ x1) ∧ (x1 < I 156 13)))) ∧ (((0 ≤ x2) ∧ (x2 < (up2 I 156 0 0) 167 x1.toNat))))) → (0 ≤ x3) → ((((I 159 ((20 * x1) + 9).toNat) + 1) + (I 159 ((20 * x1) + 1).toNat)) - (I 159 ((20 * x1) + 9).toNat) ≤ x3) → ((False)) → Ca (d + 4) mX12_doesExtend [vR (some (22, 0, 156)), vI x1, vI (I 168 ((96 * x1) + x2).toNat), vI 0] ((up2 I 156 0 0), S) (.inl (some (vI (if z2 = true then (1 : Int) else 0)))) (J2, S))
    (g3 : ((((((0 ≤ x1) ∧ (x1 < I 156 13)))) ∧ (((0 ≤ x2) ∧ (x2 < (up2 I 156 0 0) 167 x1.toNat))))) → (0 ≤ x3) → (x3 < (((I 159 ((20 * x1) + 9).toNat) + 1) + (I 159 ((20 * x1) + 1).toNat)) - (I 159 ((20 * x1) + 9).toNat)) → ((True)) → Ca (d + 4) mX12_doesExtend [vR (some (22, 0, 156)), vI x1, vI (I 168 ((96 * x1) + x2).toNat), vI 0] ((up2 I 156 0 0), S) (.inl (some (vI (if z3 = true then (1 : Int) else 0)))) (J3, S))
    (r1 : ((((((0 ≤ x1) ∧ (x1 < I 156 13)))) ∧ (((0 ≤ x2) ∧ (x2 < (up2 I 156 0 0) 167 x1.toNat))))) → (x3 < 0) → ((False)) → (¬(z1 = true)) → (-1) = v := by intros; first | rfl | (exfalso; omega) | contradiction | (exfalso; simp_all; done))
    (e1 : ((((((0 ≤ x1) ∧ (x1 < I 156 13)))) ∧ (((0 ≤ x2) ∧ (x2 < (up2 I 156 0 0) 167 x1.toNat))))) → (x3 < 0) → ((False)) → (¬(z1 = true)) → (J1, S) = h1 := by intros; first | rfl | (exfalso; omega) | contradiction | (exfalso; simp_all; done))
    (r2 : ((((((0 ≤ x1) ∧ (x1 < I 156 13)))) ∧ (((0 ≤ x2) ∧ (x2 < (up2 I 156 0 0) 167 x1.toNat))))) → (x3 < 0) → ((False)) → (z1 = true) → J1 173 ((J1 159 ((20 * x1) + 9).toNat) + x3).toNat = v := by intros; first | rfl | (exfalso; omega) | contradiction | (exfalso; simp_all; done))
    (e2 : ((((((0 ≤ x1) ∧ (x1 < I 156 13)))) ∧ (((0 ≤ x2) ∧ (x2 < (up2 I 156 0 0) 167 x1.toNat))))) → (x3 < 0) → ((False)) → (z1 = true) → (J1, S) = h1 := by intros; first | rfl | (exfalso; omega) | contradiction | (exfalso; simp_all; done))
    (r3 : ((((((0 ≤ x1) ∧ (x1 < I 156 13)))) ∧ (((0 ≤ x2) ∧ (x2 < (up2 I 156 0 0) 167 x1.toNat))))) → (x3 < 0) → (¬(False)) → 0 = v := by intros; first | rfl | (exfalso; omega) | contradiction | (exfalso; simp_all; done))
    (e3 : ((((((0 ≤ x1) ∧ (x1 < I 156 13)))) ∧ (((0 ≤ x2) ∧ (x2 < (up2 I 156 0 0) 167 x1.toNat))))) → (x3 < 0) → (¬(False)) → ((up2 (up2 I 156 0 0) 156 0 1), S) = h1 := by intros; first | rfl | (exfalso; omega) | contradiction | (exfalso; simp_all; done))
    (r4 : ((((((0 ≤ x1) ∧ (x1 < I 156 13)))) ∧ (((0 ≤ x2) ∧ (x2 < (up2 I 156 0 0) 167 x1.toNat))))) → (0 ≤ x3) → ((((I 159 ((20 * x1) + 9).toNat) + 1) + (I 159 ((20 * x1) + 1).toNat)) - (I 159 ((20 * x1) + 9).toNat) ≤ x3) → ((False)) → (¬(z2 = true)) → (-1) = v := by intros; first | rfl | (exfalso; omega) | contradiction | (exfalso; simp_all; done))
    (e4 : ((((((0 ≤ x1) ∧ (x1 < I 156 13)))) ∧ (((0 ≤ x2) ∧ (x2 < (up2 I 156 0 0) 167 x1.toNat))))) → (0 ≤ x3) → ((((I 159 ((20 * x1) + 9).toNat) + 1) + (I 159 ((20 * x1) + 1).toNat)) - (I 159 ((20 * x1) + 9).toNat) ≤ x3) → ((False)) → (¬(z2 = true)) → (J2, S) = h1 := by intros; first | rfl | (exfalso; omega) | contradiction | (exfalso; simp_all; done))
    (r5 : ((((((0 ≤ x1) ∧ (x1 < I 156 13)))) ∧ (((0 ≤ x2) ∧ (x2 < (up2 I 156 0 0) 167 x1.toNat))))) → (0 ≤ x3) → ((((I 159 ((20 * x1) + 9).toNat) + 1) + (I 159 ((20 * x1) + 1).toNat)) - (I 159 ((20 * x1) + 9).toNat) ≤ x3) → ((False)) → (z2 = true) → J2 173 ((J2 159 ((20 * x1) + 9).toNat) + x3).toNat = v := by intros; first | rfl | (exfalso; omega) | contradiction | (exfalso; simp_all; done))
    (e5 : ((((((0 ≤ x1) ∧ (x1 < I 156 13)))) ∧ (((0 ≤ x2) ∧ (x2 < (up2 I 156 0 0) 167 x1.toNat))))) → (0 ≤ x3) → ((((I 159 ((20 * x1) + 9).toNat) + 1) + (I 159 ((20 * x1) + 1).toNat)) - (I 159 ((20 * x1) + 9).toNat) ≤ x3) → ((False)) → (z2 = true) → (J2, S) = h1 := by intros; first | rfl | (exfalso; omega) | contradiction | (exfalso; simp_all; done))
    (r6 : ((((((0 ≤ x1) ∧ (x1 < I 156 13)))) ∧ (((0 ≤ x2) ∧ (x2 < (up2 I 156 0 0) 167 x1.toNat))))) → (0 ≤ x3) → ((((I 159 ((20 * x1) + 9).toNat) + 1) + (I 159 ((20 * x1) + 1).toNat)) - (I 159 ((20 * x1) + 9).toNat) ≤ x3) → (¬(False)) → 0 = v := by intros; first | rfl | (exfalso; omega) | contradiction | (exfalso; simp_all; done))
    (e6 : ((((((0 ≤ x1) ∧ (x1 < I 156 13)))) ∧ (((0 ≤ x2) ∧ (x2 < (up2 I 156 0 0) 167 x1.toNat))))) → (0 ≤ x3) → ((((I 159 ((20 * x1) + 9).toNat) + 1) + (I 159 ((20 * x1) + 1).toNat)) - (I 159 ((20 * x1) + 9).toNat) ≤ x3) → (¬(False)) → ((up2 (up2 I 156 0 0) 156 0 1), S) = h1 := by intros; first | rfl | (exfalso; omega) | contradiction | (exfalso; simp_all; done))
    (r7 : ((((((0 ≤ x1) ∧ (x1 < I 156 13)))) ∧ (((0 ≤ x2) ∧ (x2 < (up2 I 156 0 0) 167 x1.toNat))))) → (0 ≤ x3) → (x3 < (((I 159 ((20 * x1) + 9).toNat) + 1) + (I 159 ((20 * x1) + 1).toNat)) - (I 159 ((20 * x1) + 9).toNat)) → ((True)) → (¬(z3 = true)) → (-1) = v := by intros; first | rfl | (exfalso; omega) | contradiction | (exfalso; simp_all; done))
    (e7 : ((((((0 ≤ x1) ∧ (x1 < I 156 13)))) ∧ (((0 ≤ x2) ∧ (x2 < (up2 I 156 0 0) 167 x1.toNat))))) → (0 ≤ x3) → (x3 < (((I 159 ((20 * x1) + 9).toNat) + 1) + (I 159 ((20 * x1) + 1).toNat)) - (I 159 ((20 * x1) + 9).toNat)) → ((True)) → (¬(z3 = true)) → (J3, S) = h1 := by intros; first | rfl | (exfalso; omega) | contradiction | (exfalso; simp_all; done))
    (r8 : ((((((0 ≤ x1) ∧ (x1 < I 156 13)))) ∧ (((0 ≤ x2) ∧ (x2 < (up2 I 156 0 0) 167 x1.toNat))))) → (0 ≤ x3) → (x3 < (((I 159 ((20 * x1) + 9).toNat) + 1) + (I 159 ((20 * x1) + 1).toNat)) - (I 159 ((20 * x1) + 9).toNat)) → ((True)) → (z3 = true) → J3 173 ((J3 159 ((20 * x1) + 9).toNat) + x3).toNat = v := by intros; first | rfl | (exfalso; omega) | contradiction | (exfalso; simp_all; done))
    (e8 : ((((((0 ≤ x1) ∧ (x1 < I 156 13)))) ∧ (((0 ≤ x2) ∧ (x2 < (up2 I 156 0 0) 167 x1.toNat))))) → (0 ≤ x3) → (x3 < (((I 159 ((20 * x1) + 9).toNat) + 1) + (I 159 ((20 * x1) + 1).toNat)) - (I 159 ((20 * x1) + 9).toNat)) → ((True)) → (z3 = true) → (J3, S) = h1 := by intros; first | rfl | (exfalso; omega) | contradiction | (exfalso; simp_all; done))
    (r9 : ((((((0 ≤ x1) ∧ (x1 < I 156 13)))) ∧ (((0 ≤ x2) ∧ (x2 < (up2 I 156 0 0) 167 x1.toNat))))) → (0 ≤ x3) → (x3 < (((I 159 ((20 * x1) + 9).toNat) + 1) + (I 159 ((20 * x1) + 1).toNat)) - (I 159 ((20 * x1) + 9).toNat)) → (¬(True)) → 0 = v := by intros; first | rfl | (exfalso; omega) | contradiction | (exfalso; simp_all; done))
    (e9 : ((((((0 ≤ x1) ∧ (x1 < I 156 13)))) ∧ (((0 ≤ x2) ∧ (x2 < (up2 I 156 0 0) 167 x1.toNat))))) → (0 ≤ x3) → (x3 < (((I 159 ((20 * x1) + 9).toNat) + 1) + (I 159 ((20 * x1) + 1).toNat)) - (I 159 ((20 * x1) + 9).toNat)) → (¬(True)) → ((up2 (up2 I 156 0 0) 156 0 1), S) = h1 := by intros; first | rfl | (exfalso; omega) | contradiction | (exfalso; simp_all; done))
    (r10 : (¬(((((0 ≤ x1) ∧ (x1 < I 156 13)))) ∧ (((0 ≤ x2) ∧ (x2 < (up2 I 156 0 0) 167 x1.toNat))))) → 0 = v := by intros; first | rfl | (exfalso; omega) | contradiction | (exfalso; simp_all; done))
    (e10 : (¬(((((0 ≤ x1) ∧ (x1 < I 156 13)))) ∧ (((0 ≤ x2) ∧ (x2 < (up2 I 156 0 0) 167 x1.toNat))))) → ((up2 (up2 I 156 0 0) 156 0 1), S) = h1 := by intros; first | rfl | (exfalso; omega) | contradiction | (exfalso; simp_all; done))
    (v1 : ((((0 ≤ x1) ∧ (x1 < I 156 13)))) → (0 ≤ x2) → 0 ≤ x1 ∧ x1 < (4 : Nat) := by intros; first | assumption | omega | (split <;> omega))
    (v2 : ((((((0 ≤ x1) ∧ (x1 < I 156 13)))) ∧ (((0 ≤ x2) ∧ (x2 < (up2 I 156 0 0) 167 x1.toNat))))) → (x3 < 0) → ((False)) → -2147483648 ≤ 96 * x1 ∧ 96 * x1 ≤ 2147483647 := by intros; first | assumption | omega | (split <;> omega))
    (v3 : ((((((0 ≤ x1) ∧ (x1 < I 156 13)))) ∧ (((0 ≤ x2) ∧ (x2 < (up2 I 156 0 0) 167 x1.toNat))))) → (x3 < 0) → ((False)) → -2147483648 ≤ (96 * x1) + x2 ∧ (96 * x1) + x2 ≤ 2147483647 := by intros; first | assumption | omega | (split <;> omega))
    (v4 : ((((((0 ≤ x1) ∧ (x1 < I 156 13)))) ∧ (((0 ≤ x2) ∧ (x2 < (up2 I 156 0 0) 167 x1.toNat))))) → (x3 < 0) → ((False)) → 0 ≤ (96 * x1) + x2 ∧ (96 * x1) + x2 < (384 : Nat) := by intros; first | assumption | omega | (split <;> omega))
    (v5 : ((((((0 ≤ x1) ∧ (x1 < I 156 13)))) ∧ (((0 ≤ x2) ∧ (x2 < (up2 I 156 0 0) 167 x1.toNat))))) → (x3 < 0) → ((False)) → (z1 = true) → 0 ≤ x1 ∧ x1 < 4 := by intros; first | assumption | omega | (split <;> omega))
    (v6 : ((((((0 ≤ x1) ∧ (x1 < I 156 13)))) ∧ (((0 ≤ x2) ∧ (x2 < (up2 I 156 0 0) 167 x1.toNat))))) → (x3 < 0) → ((False)) → (z1 = true) → -2147483648 ≤ (J1 159 ((20 * x1) + 9).toNat) + x3 ∧ (J1 159 ((20 * x1) + 9).toNat) + x3 ≤ 2147483647 := by intros; first | assumption | omega | (split <;> omega))
    (v7 : ((((((0 ≤ x1) ∧ (x1 < I 156 13)))) ∧ (((0 ≤ x2) ∧ (x2 < (up2 I 156 0 0) 167 x1.toNat))))) → (x3 < 0) → ((False)) → (z1 = true) → 0 ≤ (J1 159 ((20 * x1) + 9).toNat) + x3 ∧ (J1 159 ((20 * x1) + 9).toNat) + x3 < (15 : Nat) := by intros; first | assumption | omega | (split <;> omega))
    (v8 : ((((((0 ≤ x1) ∧ (x1 < I 156 13)))) ∧ (((0 ≤ x2) ∧ (x2 < (up2 I 156 0 0) 167 x1.toNat))))) → (0 ≤ x3) → 0 ≤ x1 ∧ x1 < 4 := by intros; first | assumption | omega | (split <;> omega))
    (v9 : ((((((0 ≤ x1) ∧ (x1 < I 156 13)))) ∧ (((0 ≤ x2) ∧ (x2 < (up2 I 156 0 0) 167 x1.toNat))))) → (0 ≤ x3) → 0 ≤ I 159 ((20 * x1) + 9).toNat ∧ I 159 ((20 * x1) + 9).toNat ≤ 7 := by intros; first | assumption | omega | (split <;> omega))
    (v10 : ((((((0 ≤ x1) ∧ (x1 < I 156 13)))) ∧ (((0 ≤ x2) ∧ (x2 < (up2 I 156 0 0) 167 x1.toNat))))) → (0 ≤ x3) → 0 ≤ I 159 ((20 * x1) + 1).toNat ∧ I 159 ((20 * x1) + 1).toNat ≤ 7 := by intros; first | assumption | omega | (split <;> omega))
    (v11 : ((((((0 ≤ x1) ∧ (x1 < I 156 13)))) ∧ (((0 ≤ x2) ∧ (x2 < (up2 I 156 0 0) 167 x1.toNat))))) → (0 ≤ x3) → -2147483648 ≤ (((I 159 ((20 * x1) + 9).toNat) + 1) + (I 159 ((20 * x1) + 1).toNat)) - (I 159 ((20 * x1) + 9).toNat) ∧ (((I 159 ((20 * x1) + 9).toNat) + 1) + (I 159 ((20 * x1) + 1).toNat)) - (I 159 ((20 * x1) + 9).toNat) ≤ 2147483647 := by intros; first | assumption | omega | (split <;> omega))
    (v12 : ((((((0 ≤ x1) ∧ (x1 < I 156 13)))) ∧ (((0 ≤ x2) ∧ (x2 < (up2 I 156 0 0) 167 x1.toNat))))) → (0 ≤ x3) → ((((I 159 ((20 * x1) + 9).toNat) + 1) + (I 159 ((20 * x1) + 1).toNat)) - (I 159 ((20 * x1) + 9).toNat) ≤ x3) → ((False)) → -2147483648 ≤ 96 * x1 ∧ 96 * x1 ≤ 2147483647 := by intros; first | assumption | omega | (split <;> omega))
    (v13 : ((((((0 ≤ x1) ∧ (x1 < I 156 13)))) ∧ (((0 ≤ x2) ∧ (x2 < (up2 I 156 0 0) 167 x1.toNat))))) → (0 ≤ x3) → ((((I 159 ((20 * x1) + 9).toNat) + 1) + (I 159 ((20 * x1) + 1).toNat)) - (I 159 ((20 * x1) + 9).toNat) ≤ x3) → ((False)) → -2147483648 ≤ (96 * x1) + x2 ∧ (96 * x1) + x2 ≤ 2147483647 := by intros; first | assumption | omega | (split <;> omega))
    (v14 : ((((((0 ≤ x1) ∧ (x1 < I 156 13)))) ∧ (((0 ≤ x2) ∧ (x2 < (up2 I 156 0 0) 167 x1.toNat))))) → (0 ≤ x3) → ((((I 159 ((20 * x1) + 9).toNat) + 1) + (I 159 ((20 * x1) + 1).toNat)) - (I 159 ((20 * x1) + 9).toNat) ≤ x3) → ((False)) → 0 ≤ (96 * x1) + x2 ∧ (96 * x1) + x2 < (384 : Nat) := by intros; first | assumption | omega | (split <;> omega))
    (v15 : ((((((0 ≤ x1) ∧ (x1 < I 156 13)))) ∧ (((0 ≤ x2) ∧ (x2 < (up2 I 156 0 0) 167 x1.toNat))))) → (0 ≤ x3) → ((((I 159 ((20 * x1) + 9).toNat) + 1) + (I 159 ((20 * x1) + 1).toNat)) - (I 159 ((20 * x1) + 9).toNat) ≤ x3) → ((False)) → (z2 = true) → -2147483648 ≤ (J2 159 ((20 * x1) + 9).toNat) + x3 ∧ (J2 159 ((20 * x1) + 9).toNat) + x3 ≤ 2147483647 := by intros; first | assumption | omega | (split <;> omega))
    (v16 : ((((((0 ≤ x1) ∧ (x1 < I 156 13)))) ∧ (((0 ≤ x2) ∧ (x2 < (up2 I 156 0 0) 167 x1.toNat))))) → (0 ≤ x3) → ((((I 159 ((20 * x1) + 9).toNat) + 1) + (I 159 ((20 * x1) + 1).toNat)) - (I 159 ((20 * x1) + 9).toNat) ≤ x3) → ((False)) → (z2 = true) → 0 ≤ (J2 159 ((20 * x1) + 9).toNat) + x3 ∧ (J2 159 ((20 * x1) + 9).toNat) + x3 < (15 : Nat) := by intros; first | assumption | omega | (split <;> omega))
    (v17 : ((((((0 ≤ x1) ∧ (x1 < I 156 13)))) ∧ (((0 ≤ x2) ∧ (x2 < (up2 I 156 0 0) 167 x1.toNat))))) → (0 ≤ x3) → (x3 < (((I 159 ((20 * x1) + 9).toNat) + 1) + (I 159 ((20 * x1) + 1).toNat)) - (I 159 ((20 * x1) + 9).toNat)) → ((True)) → -2147483648 ≤ 96 * x1 ∧ 96 * x1 ≤ 2147483647 := by intros; first | assumption | omega | (split <;> omega))
    (v18 : ((((((0 ≤ x1) ∧ (x1 < I 156 13)))) ∧ (((0 ≤ x2) ∧ (x2 < (up2 I 156 0 0) 167 x1.toNat))))) → (0 ≤ x3) → (x3 < (((I 159 ((20 * x1) + 9).toNat) + 1) + (I 159 ((20 * x1) + 1).toNat)) - (I 159 ((20 * x1) + 9).toNat)) → ((True)) → -2147483648 ≤ (96 * x1) + x2 ∧ (96 * x1) + x2 ≤ 2147483647 := by intros; first | assumption | omega | (split <;> omega))
    (v19 : ((((((0 ≤ x1) ∧ (x1 < I 156 13)))) ∧ (((0 ≤ x2) ∧ (x2 < (up2 I 156 0 0) 167 x1.toNat))))) → (0 ≤ x3) → (x3 < (((I 159 ((20 * x1) + 9).toNat) + 1) + (I 159 ((20 * x1) + 1).toNat)) - (I 159 ((20 * x1) + 9).toNat)) → ((True)) → 0 ≤ (96 * x1) + x2 ∧ (96 * x1) + x2 < (384 : Nat) := by intros; first | assumption | omega | (split <;> omega))
    (v20 : ((((((0 ≤ x1) ∧ (x1 < I 156 13)))) ∧ (((0 ≤ x2) ∧ (x2 < (up2 I 156 0 0) 167 x1.toNat))))) → (0 ≤ x3) → (x3 < (((I 159 ((20 * x1) + 9).toNat) + 1) + (I 159 ((20 * x1) + 1).toNat)) - (I 159 ((20 * x1) + 9).toNat)) → ((True)) → (z3 = true) → -2147483648 ≤ (J3 159 ((20 * x1) + 9).toNat) + x3 ∧ (J3 159 ((20 * x1) + 9).toNat) + x3 ≤ 2147483647 := by intros; first | assumption | omega | (split <;> omega))
    (v21 : ((((((0 ≤ x1) ∧ (x1 < I 156 13)))) ∧ (((0 ≤ x2) ∧ (x2 < (up2 I 156 0 0) 167 x1.toNat))))) → (0 ≤ x3) → (x3 < (((I 159 ((20 * x1) + 9).toNat) + 1) + (I 159 ((20 * x1) + 1).toNat)) - (I 159 ((20 * x1) + 9).toNat)) → ((True)) → (z3 = true) → 0 ≤ (J3 159 ((20 * x1) + 9).toNat) + x3 ∧ (J3 159 ((20 * x1) + 9).toNat) + x3 < (15 : Nat) := by intros; first | assumption | omega | (split <;> omega)) : Ca (d + 5) mX12_extend [vR (some (22, 0, 156)), vI x1, vI x2, vI x3] (I, S) (.inl (some (vI v))) h1 :=
  Ca.of rfl rfl (
  (Classical.em ((((((0 ≤ x1) ∧ (x1 < I 156 13)))) ∧ (((0 ≤ x2) ∧ (x2 < (up2 I 156 0 0) 167 x1.toNat)))))).elim (fun c1 => 
    b_X12_extend_0  (c_X12_isColouring_y hl0 (by first | decide | exact (show 0 = 0 from by decide)) v1 c1) (
    b_X12_extend_11  (fun c => absurd c (by decide)) (fun _ => 
      b_X12_extend_14  (fun (c3 : x3 < 0) => 
        b_X12_extend_38  (
        (Classical.em ((False))).elim (fun c5 => 
          b_X12_extend_39  (c_X12_right_y (b1 := False) hl0 (by first | decide | exact (show 0 = 0 from by decide)) (by first | decide | exact (show (1 : Int) ≠ 0 from by decide)) c5) (
          b_X12_extend_43  (fun _ => 
            b_X12_extend_48 (ly_X12_28 hl0) (v2 c1 c3 c5) (v3 c1 c3 c5) (v4 c1 c3 c5) (g1 c1 c3 c5) (
            b_X12_extend_65  (fun c7' => have c7 : ¬(z1 = true) := b2f c7'; 
              b_X12_extend_83  (ev_ret2 (r1 c1 c3 c5 c7) (e1 c1 c3 c5 c7) (b_X12_extend_84 ))) (fun c8' => have c8 : z1 = true := b2t c8'; 
              b_X12_extend_68 (ly_X12_33 hl0) (c_X12_ring hl0 (v5 c1 c3 c5 c8)) (
              b_X12_extend_77 (v6 c1 c3 c5 c8) (v7 c1 c3 c5 c8) (ev_ret2 (r2 c1 c3 c5 c8) (e2 c1 c3 c5 c8) (b_X12_extend_84 )))))) (fun c => absurd c (by decide)))) (fun c6 => 
          b_X12_extend_39  (c_X12_right_n (b1 := False) hl0 (by first | decide | exact (show 0 = 0 from by decide)) (by first | decide | exact (show (1 : Int) ≠ 0 from by decide)) c6) (
          b_X12_extend_43  (fun c => absurd c (by decide)) (fun _ => ev_ret2 (r3 c1 c3 c6) (e3 c1 c3 c6) (b_X12_extend_46 )))))) (fun (c4 : 0 ≤ x3) => 
        b_X12_extend_19  (c_X12_vertices hl0 (v8 c1 c4) (v9 c1 c4) (v10 c1 c4)) (
        b_X12_extend_25  (c_X12_ring hl0 (v8 c1 c4)) (
        b_X12_extend_30 (v11 c1 c4) (fun (c9 : (((I 159 ((20 * x1) + 9).toNat) + 1) + (I 159 ((20 * x1) + 1).toNat)) - (I 159 ((20 * x1) + 9).toNat) ≤ x3) => 
          b_X12_extend_38  (
          (Classical.em ((False))).elim (fun c11 => 
            b_X12_extend_39  (c_X12_right_y (b1 := False) hl0 (by first | decide | exact (show 0 = 0 from by decide)) (by first | decide | exact (show (1 : Int) ≠ 0 from by decide)) c11) (
            b_X12_extend_43  (fun _ => 
              b_X12_extend_48 (ly_X12_28 hl0) (v12 c1 c4 c9 c11) (v13 c1 c4 c9 c11) (v14 c1 c4 c9 c11) (g2 c1 c4 c9 c11) (
              b_X12_extend_65  (fun c13' => have c13 : ¬(z2 = true) := b2f c13'; 
                b_X12_extend_83  (ev_ret2 (r4 c1 c4 c9 c11 c13) (e4 c1 c4 c9 c11 c13) (b_X12_extend_84 ))) (fun c14' => have c14 : z2 = true := b2t c14'; 
                b_X12_extend_68 (ly_X12_33 hl0) (c_X12_ring hl0 (v8 c1 c4)) (
                b_X12_extend_77 (v15 c1 c4 c9 c11 c14) (v16 c1 c4 c9 c11 c14) (ev_ret2 (r5 c1 c4 c9 c11 c14) (e5 c1 c4 c9 c11 c14) (b_X12_extend_84 )))))) (fun c => absurd c (by decide)))) (fun c12 => 
            b_X12_extend_39  (c_X12_right_n (b1 := False) hl0 (by first | decide | exact (show 0 = 0 from by decide)) (by first | decide | exact (show (1 : Int) ≠ 0 from by decide)) c12) (
            b_X12_extend_43  (fun c => absurd c (by decide)) (fun _ => ev_ret2 (r6 c1 c4 c9 c12) (e6 c1 c4 c9 c12) (b_X12_extend_46 )))))) (fun (c10 : x3 < (((I 159 ((20 * x1) + 9).toNat) + 1) + (I 159 ((20 * x1) + 1).toNat)) - (I 159 ((20 * x1) + 9).toNat)) => 
          b_X12_extend_34  (
          (Classical.em ((True))).elim (fun c15 => 
            b_X12_extend_39  (c_X12_right_y (b1 := True) hl0 (by first | decide | exact (show 0 = 0 from by decide)) (by first | decide | exact (show (1 : Int) ≠ 0 from by decide)) c15) (
            b_X12_extend_43  (fun _ => 
              b_X12_extend_48 (ly_X12_28 hl0) (v17 c1 c4 c10 c15) (v18 c1 c4 c10 c15) (v19 c1 c4 c10 c15) (g3 c1 c4 c10 c15) (
              b_X12_extend_65  (fun c17' => have c17 : ¬(z3 = true) := b2f c17'; 
                b_X12_extend_83  (ev_ret2 (r7 c1 c4 c10 c15 c17) (e7 c1 c4 c10 c15 c17) (b_X12_extend_84 ))) (fun c18' => have c18 : z3 = true := b2t c18'; 
                b_X12_extend_68 (ly_X12_33 hl0) (c_X12_ring hl0 (v8 c1 c4)) (
                b_X12_extend_77 (v20 c1 c4 c10 c15 c18) (v21 c1 c4 c10 c15 c18) (ev_ret2 (r8 c1 c4 c10 c15 c18) (e8 c1 c4 c10 c15 c18) (b_X12_extend_84 )))))) (fun c => absurd c (by decide)))) (fun c16 => 
            b_X12_extend_39  (c_X12_right_n (b1 := True) hl0 (by first | decide | exact (show 0 = 0 from by decide)) (by first | decide | exact (show (1 : Int) ≠ 0 from by decide)) c16) (
            b_X12_extend_43  (fun c => absurd c (by decide)) (fun _ => ev_ret2 (r9 c1 c4 c10 c16) (e9 c1 c4 c10 c16) (b_X12_extend_46 )))))))))))) (fun c2 => 
    b_X12_extend_0  (c_X12_isColouring_n hl0 (by first | decide | exact (show 0 = 0 from by decide)) v1 c2) (
    b_X12_extend_11  (fun _ => ev_ret2 (r10 c2) (e10 c2) (b_X12_extend_46 )) (fun c => absurd c (by decide)))))
theorem w_X12_runs_0 {d : Nat} {I : Nat → Nat → Int} {S : PS} {x1 x2 x3 x4 z1 : Int} {J1 : Nat → Nat → Int} {v : Int} {h1 : PM} (hl0 : LyX12 S)
    (g1 : ((((((0 ≤ x1) ∧ (x1 < I 156 13)))) ∧ (((0 ≤ x2) ∧ (x2 < (up2 I 156 0 0) 167 x1.toNat))))) → ((((0 ≤ x3) ∧ (x3 ≤ 2)))) → ((((0 ≤ x4) ∧ (x4 ≤ 1)))) → (x4 ≠ 0) → Ca (d + 4) mX12_fences [vR (some (22, 0, 156))] ((lrI (up2 I 156 0 0) (I 159 ((20 * x1) + 9).toNat) (I 168 ((96 * x1) + x2).toNat) x3), S) (.inl (some (vI z1))) (J1, S))
    (r1 : ((((((0 ≤ x1) ∧ (x1 < I 156 13)))) ∧ (((0 ≤ x2) ∧ (x2 < (up2 I 156 0 0) 167 x1.toNat))))) → ((((0 ≤ x3) ∧ (x3 ≤ 2)))) → ((((0 ≤ x4) ∧ (x4 ≤ 1)))) → (x4 ≠ 0) → z1 = v := by intros; first | rfl | (exfalso; omega) | contradiction | (exfalso; simp_all; done))
    (e1 : ((((((0 ≤ x1) ∧ (x1 < I 156 13)))) ∧ (((0 ≤ x2) ∧ (x2 < (up2 I 156 0 0) 167 x1.toNat))))) → ((((0 ≤ x3) ∧ (x3 ≤ 2)))) → ((((0 ≤ x4) ∧ (x4 ≤ 1)))) → (x4 ≠ 0) → (J1, S) = h1 := by intros; first | rfl | (exfalso; omega) | contradiction | (exfalso; simp_all; done))
    (r2 : ((((((0 ≤ x1) ∧ (x1 < I 156 13)))) ∧ (((0 ≤ x2) ∧ (x2 < (up2 I 156 0 0) 167 x1.toNat))))) → ((((0 ≤ x3) ∧ (x3 ≤ 2)))) → ((((0 ≤ x4) ∧ (x4 ≤ 1)))) → (x4 = 0) → (lrI (up2 I 156 0 0) (I 159 ((20 * x1) + 9).toNat) (I 168 ((96 * x1) + x2).toNat) x3) 156 37 = v := by intros; first | rfl | (exfalso; omega) | contradiction | (exfalso; simp_all; done))
    (e2 : ((((((0 ≤ x1) ∧ (x1 < I 156 13)))) ∧ (((0 ≤ x2) ∧ (x2 < (up2 I 156 0 0) 167 x1.toNat))))) → ((((0 ≤ x3) ∧ (x3 ≤ 2)))) → ((((0 ≤ x4) ∧ (x4 ≤ 1)))) → (x4 = 0) → ((lrI (up2 I 156 0 0) (I 159 ((20 * x1) + 9).toNat) (I 168 ((96 * x1) + x2).toNat) x3), S) = h1 := by intros; first | rfl | (exfalso; omega) | contradiction | (exfalso; simp_all; done))
    (r3 : ((((((0 ≤ x1) ∧ (x1 < I 156 13)))) ∧ (((0 ≤ x2) ∧ (x2 < (up2 I 156 0 0) 167 x1.toNat))))) → ((((0 ≤ x3) ∧ (x3 ≤ 2)))) → (¬(((0 ≤ x4) ∧ (x4 ≤ 1)))) → 0 = v := by intros; first | rfl | (exfalso; omega) | contradiction | (exfalso; simp_all; done))
    (e3 : ((((((0 ≤ x1) ∧ (x1 < I 156 13)))) ∧ (((0 ≤ x2) ∧ (x2 < (up2 I 156 0 0) 167 x1.toNat))))) → ((((0 ≤ x3) ∧ (x3 ≤ 2)))) → (¬(((0 ≤ x4) ∧ (x4 ≤ 1)))) → ((up2 (up2 I 156 0 0) 156 0 1), S) = h1 := by intros; first | rfl | (exfalso; omega) | contradiction | (exfalso; simp_all; done))
    (r4 : ((((((0 ≤ x1) ∧ (x1 < I 156 13)))) ∧ (((0 ≤ x2) ∧ (x2 < (up2 I 156 0 0) 167 x1.toNat))))) → (¬(((0 ≤ x3) ∧ (x3 ≤ 2)))) → 0 = v := by intros; first | rfl | (exfalso; omega) | contradiction | (exfalso; simp_all; done))
    (e4 : ((((((0 ≤ x1) ∧ (x1 < I 156 13)))) ∧ (((0 ≤ x2) ∧ (x2 < (up2 I 156 0 0) 167 x1.toNat))))) → (¬(((0 ≤ x3) ∧ (x3 ≤ 2)))) → ((up2 (up2 I 156 0 0) 156 0 1), S) = h1 := by intros; first | rfl | (exfalso; omega) | contradiction | (exfalso; simp_all; done))
    (r5 : (¬(((((0 ≤ x1) ∧ (x1 < I 156 13)))) ∧ (((0 ≤ x2) ∧ (x2 < (up2 I 156 0 0) 167 x1.toNat))))) → 0 = v := by intros; first | rfl | (exfalso; omega) | contradiction | (exfalso; simp_all; done))
    (e5 : (¬(((((0 ≤ x1) ∧ (x1 < I 156 13)))) ∧ (((0 ≤ x2) ∧ (x2 < (up2 I 156 0 0) 167 x1.toNat))))) → ((up2 (up2 I 156 0 0) 156 0 1), S) = h1 := by intros; first | rfl | (exfalso; omega) | contradiction | (exfalso; simp_all; done))
    (v1 : ((((0 ≤ x1) ∧ (x1 < I 156 13)))) → (0 ≤ x2) → 0 ≤ x1 ∧ x1 < (4 : Nat) := by intros; first | assumption | omega | (split <;> omega))
    (v2 : ((((((0 ≤ x1) ∧ (x1 < I 156 13)))) ∧ (((0 ≤ x2) ∧ (x2 < (up2 I 156 0 0) 167 x1.toNat))))) → ((((0 ≤ x3) ∧ (x3 ≤ 2)))) → ((((0 ≤ x4) ∧ (x4 ≤ 1)))) → -2147483648 ≤ 96 * x1 ∧ 96 * x1 ≤ 2147483647 := by intros; first | assumption | omega | (split <;> omega))
    (v3 : ((((((0 ≤ x1) ∧ (x1 < I 156 13)))) ∧ (((0 ≤ x2) ∧ (x2 < (up2 I 156 0 0) 167 x1.toNat))))) → ((((0 ≤ x3) ∧ (x3 ≤ 2)))) → ((((0 ≤ x4) ∧ (x4 ≤ 1)))) → -2147483648 ≤ (96 * x1) + x2 ∧ (96 * x1) + x2 ≤ 2147483647 := by intros; first | assumption | omega | (split <;> omega))
    (v4 : ((((((0 ≤ x1) ∧ (x1 < I 156 13)))) ∧ (((0 ≤ x2) ∧ (x2 < (up2 I 156 0 0) 167 x1.toNat))))) → ((((0 ≤ x3) ∧ (x3 ≤ 2)))) → ((((0 ≤ x4) ∧ (x4 ≤ 1)))) → 0 ≤ (96 * x1) + x2 ∧ (96 * x1) + x2 < (384 : Nat) := by intros; first | assumption | omega | (split <;> omega))
    (v5 : ((((((0 ≤ x1) ∧ (x1 < I 156 13)))) ∧ (((0 ≤ x2) ∧ (x2 < (up2 I 156 0 0) 167 x1.toNat))))) → ((((0 ≤ x3) ∧ (x3 ≤ 2)))) → ((((0 ≤ x4) ∧ (x4 ≤ 1)))) → 0 ≤ x1 ∧ x1 < 4 := by intros; first | assumption | omega | (split <;> omega))
    (v6 : ((((((0 ≤ x1) ∧ (x1 < I 156 13)))) ∧ (((0 ≤ x2) ∧ (x2 < (up2 I 156 0 0) 167 x1.toNat))))) → ((((0 ≤ x3) ∧ (x3 ≤ 2)))) → ((((0 ≤ x4) ∧ (x4 ≤ 1)))) → 1 ≤ I 159 ((20 * x1) + 9).toNat ∧ I 159 ((20 * x1) + 9).toNat ≤ 7 := by intros; first | assumption | omega | (split <;> omega))
    (v7 : ((((((0 ≤ x1) ∧ (x1 < I 156 13)))) ∧ (((0 ≤ x2) ∧ (x2 < (up2 I 156 0 0) 167 x1.toNat))))) → ((((0 ≤ x3) ∧ (x3 ≤ 2)))) → ((((0 ≤ x4) ∧ (x4 ≤ 1)))) → 0 ≤ x3 ∧ x3 ≤ 2 := by intros; first | assumption | omega | (split <;> omega)) : Ca (d + 5) mX12_runs [vR (some (22, 0, 156)), vI x1, vI x2, vI x3, vI x4] (I, S) (.inl (some (vI v))) h1 :=
  Ca.of rfl rfl (
  (Classical.em ((((((0 ≤ x1) ∧ (x1 < I 156 13)))) ∧ (((0 ≤ x2) ∧ (x2 < (up2 I 156 0 0) 167 x1.toNat)))))).elim (fun c1 => 
    b_X12_runs_0  (c_X12_isColouring_y hl0 (by first | decide | exact (show 0 = 0 from by decide)) v1 c1) (
    b_X12_runs_11  (fun c => absurd c (by decide)) (fun _ => 
      (Classical.em ((((0 ≤ x3) ∧ (x3 ≤ 2))))).elim (fun c3 => 
        b_X12_runs_14  (c_X12_isWhat_y hl0 (by first | decide | exact (show 0 = 0 from by decide)) c3) (
        b_X12_runs_20  (fun c => absurd c (by decide)) (fun _ => 
          (Classical.em ((((0 ≤ x4) ∧ (x4 ≤ 1))))).elim (fun c5 => 
            b_X12_runs_23  (c_X12_isWhat_y hl0 (by first | decide | exact (show 0 = 0 from by decide)) c5) (
            b_X12_runs_30  (fun _ => 
              b_X12_runs_35 (ly_X12_28 hl0) (v2 c1 c3 c5) (v3 c1 c3 c5) (v4 c1 c3 c5) (c_X12_laysRuns hl0 (v5 c1 c3 c5) (v6 c1 c3 c5) (v7 c1 c3 c5)) (
              b_X12_runs_52  (fun (c7 : x4 ≠ 0) => 
                b_X12_runs_64  (g1 c1 c3 c5 c7) (ev_ret2 (r1 c1 c3 c5 c7) (e1 c1 c3 c5 c7) (b_X12_runs_68 ))) (fun (c8 : x4 = 0) => 
                b_X12_runs_57  (ev_ret2 (r2 c1 c3 c5 c8) (e2 c1 c3 c5 c8) (b_X12_runs_68 ))))) (fun c => absurd c (by decide)))) (fun c6 => 
            b_X12_runs_23  (c_X12_isWhat_n hl0 (by first | decide | exact (show 0 = 0 from by decide)) c6) (
            b_X12_runs_30  (fun c => absurd c (by decide)) (fun _ => ev_ret2 (r3 c1 c3 c6) (e3 c1 c3 c6) (b_X12_runs_33 ))))))) (fun c4 => 
        b_X12_runs_14  (c_X12_isWhat_n hl0 (by first | decide | exact (show 0 = 0 from by decide)) c4) (
        b_X12_runs_20  (fun _ => ev_ret2 (r4 c1 c4) (e4 c1 c4) (b_X12_runs_33 )) (fun c => absurd c (by decide))))))) (fun c2 => 
    b_X12_runs_0  (c_X12_isColouring_n hl0 (by first | decide | exact (show 0 = 0 from by decide)) v1 c2) (
    b_X12_runs_11  (fun _ => ev_ret2 (r5 c2) (e5 c2) (b_X12_runs_33 )) (fun c => absurd c (by decide)))))
end
