noncomputable section
abbrev L_X3_isHeldBy_12 (d : Nat) (a0 : Nat) (x1 : Int) (n2 : Nat) (a2 : Nat) (x3 : Int) (I : Nat → Nat → Int) (S : PS) (v : Int) (h1 : PM) : Prop := Ev (d + 1) mX3_isHeldBy (12, [some (vR (some (14, 0, a0))), some (vI x1), some (vR (some (0, n2, a2))), some (vI x3)], [], (I, S)) (.inl (some (vI v)), h1)
theorem w_X3_isHeldBy_0 {d : Nat} {I : Nat → Nat → Int} {S : PS} {a0 n2 a2 : Nat} {x1 : Int} {v : Int} {h1 : PM} (hl0 : LyX3 S a0)
    (k1 : (x1 = I a0 0) → L_X3_isHeldBy_12 d a0 x1 n2 a2 0 I S v h1)
    (r1 : (x1 ≠ I a0 0) → 0 = v)
    (e1 : (x1 ≠ I a0 0) → (I, S) = h1 := by intros; rfl) : Ca (d + 1) mX3_isHeldBy [vR (some (14, 0, a0)), vI x1, vR (some (0, n2, a2))] (I, S) (.inl (some (vI v))) h1 :=
  Ca.of rfl rfl (
  b_X3_isHeldBy_0  (fun (c1 : x1 = I a0 0) => 
    b_X3_isHeldBy_10  ((k1 c1))) (fun (c2 : x1 ≠ I a0 0) => ev_ret2 (r1 c2) (e1 c2) (b_X3_isHeldBy_8 )))
theorem w_X3_isHeldBy_12 {d : Nat} {I : Nat → Nat → Int} {S : PS} {a0 n2 a2 : Nat} {x1 x3 : Int} {v : Int} {h1 : PM} (hl0 : LyX3 S a0)
    (k1 : (x3 < x1) → (¬(allB (stP I a0 a2 x3 1 x1) (I a0 1).toNat = true)) → (¬(allB (stP I a0 a2 x3 (x1 - 1) x1) (I a0 1).toNat = true)) → L_X3_isHeldBy_12 d a0 x1 n2 a2 (x3 + 1) I S v h1)
    (r1 : (x1 ≤ x3) → 0 = v)
    (e1 : (x1 ≤ x3) → (I, S) = h1 := by intros; rfl)
    (r2 : (x3 < x1) → (allB (stP I a0 a2 x3 1 x1) (I a0 1).toNat = true) → 1 = v)
    (e2 : (x3 < x1) → (allB (stP I a0 a2 x3 1 x1) (I a0 1).toNat = true) → (I, S) = h1 := by intros; rfl)
    (r3 : (x3 < x1) → (¬(allB (stP I a0 a2 x3 1 x1) (I a0 1).toNat = true)) → (allB (stP I a0 a2 x3 (x1 - 1) x1) (I a0 1).toNat = true) → 1 = v)
    (e3 : (x3 < x1) → (¬(allB (stP I a0 a2 x3 1 x1) (I a0 1).toNat = true)) → (allB (stP I a0 a2 x3 (x1 - 1) x1) (I a0 1).toNat = true) → (I, S) = h1 := by intros; rfl)
    (v1 : (x3 < x1) → 0 ≤ x3 ∧ x3 < x1 := by intros; first | assumption | omega | (split <;> omega))
    (v2 : (x3 < x1) → 0 ≤ (1 : Int) ∧ (1 : Int) ≤ x1 := by intros; first | assumption | omega | (split <;> omega))
    (v3 : (x3 < x1) → x1 ≤ n2 ∧ n2 ≤ 9 := by intros; first | assumption | omega | (split <;> omega))
    (v4 : (x3 < x1) → 0 ≤ I a0 1 ∧ I a0 1 ≤ 7 := by intros; first | assumption | omega | (split <;> omega))
    (v5 : (x3 < x1) → (¬(allB (stP I a0 a2 x3 1 x1) (I a0 1).toNat = true)) → -2147483648 ≤ x1 - 1 ∧ x1 - 1 ≤ 2147483647 := by intros; first | assumption | omega | (split <;> omega))
    (v6 : (x3 < x1) → (¬(allB (stP I a0 a2 x3 1 x1) (I a0 1).toNat = true)) → 0 ≤ (x1 - 1) ∧ (x1 - 1) ≤ x1 := by intros; first | assumption | omega | (split <;> omega))
    (v7 : (x3 < x1) → (¬(allB (stP I a0 a2 x3 1 x1) (I a0 1).toNat = true)) → (¬(allB (stP I a0 a2 x3 (x1 - 1) x1) (I a0 1).toNat = true)) → -2147483648 ≤ x3 + 1 ∧ x3 + 1 ≤ 2147483647 := by intros; first | assumption | omega | (split <;> omega)) : L_X3_isHeldBy_12 d a0 x1 n2 a2 x3 I S v h1 :=
  
  b_X3_isHeldBy_12  (fun (c1 : x1 ≤ x3) => ev_ret2 (r1 c1) (e1 c1) (b_X3_isHeldBy_49 )) (fun (c2 : x3 < x1) => 
    b_X3_isHeldBy_17  (c_X3_standsAt hl0 (v1 c2) (v2 c2) (v3 c2) (v4 c2)) (
    b_X3_isHeldBy_25  (fun c3' => have c3 : allB (stP I a0 a2 x3 1 x1) (I a0 1).toNat = true := b2t c3'; ev_ret2 (r2 c2 c3) (e2 c2 c3) (b_X3_isHeldBy_41 )) (fun c4' => have c4 : ¬(allB (stP I a0 a2 x3 1 x1) (I a0 1).toNat = true) := b2f c4'; 
      b_X3_isHeldBy_28 (v5 c2 c4) (c_X3_standsAt hl0 (v1 c2) (v6 c2 c4) (v3 c2) (v4 c2)) (
      b_X3_isHeldBy_38  (fun c5' => have c5 : ¬(allB (stP I a0 a2 x3 (x1 - 1) x1) (I a0 1).toNat = true) := b2f c5'; 
        b_X3_isHeldBy_43 (v7 c2 c4 c5) ((k1 c2 c4 c5))) (fun c6' => have c6 : allB (stP I a0 a2 x3 (x1 - 1) x1) (I a0 1).toNat = true := b2t c6'; ev_ret2 (r3 c2 c4 c6) (e3 c2 c4 c6) (b_X3_isHeldBy_41 ))))))
abbrev L_X9_begin_9 (d : Nat) (a0 : Nat) (a1 : Nat) (x2 : Int) (I : Nat → Nat → Int) (S : PS) (h1 : PM) : Prop := Ev (d + 2) mX9_begin (9, [some (vR (some (19, 0, a0))), some (vR (some (17, 0, a1))), some (vI x2)], [], (I, S)) (.inl none, h1)
theorem w_X9_begin_0 {d : Nat} {I : Nat → Nat → Int} {S : PS} {a1 : Nat} {h1 : PM} (hl0 : LyX9 S 126) (hl1 : LyX7 S a1)
    (k1 : L_X9_begin_9 d 126 a1 0 (up1 I (127 + 1) (upTo (I (127 + 1)) (fun _ => 0) 0 4)) S h1) : Ca (d + 2) mX9_begin [vR (some (19, 0, 126)), vR (some (17, 0, a1))] (I, S) (.inl none) h1 :=
  Ca.of rfl rfl (
  b_X9_begin_0 (ly_X9_0 hl0) (c_X2_clear (ly_X9_p hl0)) (
  b_X9_begin_7  (k1)))
theorem w_X9_begin_9 {d : Nat} {I : Nat → Nat → Int} {S : PS} {a1 : Nat} {x2 : Int} {h1 : PM} (hl0 : LyX9 S 126) (hl1 : LyX7 S a1)
    (k1 : (x2 < I a1 0) → L_X9_begin_9 d 126 a1 (x2 + 1) (up2 I 129 (x2.toNat) (I (a1 + 1) (x2 * 8).toNat)) S h1)
    (e1 : (I a1 0 ≤ x2) → ((up2 (up2 I 126 2 0) 126 6 0), S) = h1 := by intros; rfl)
    (v1 : (x2 < I a1 0) → -2147483648 ≤ x2 * 8 ∧ x2 * 8 ≤ 2147483647 := by intros; first | assumption | omega | (split <;> omega))
    (v2 : (x2 < I a1 0) → 0 ≤ x2 * 8 ∧ x2 * 8 < (48 : Nat) := by intros; first | assumption | omega | (split <;> omega))
    (v3 : (x2 < I a1 0) → 0 ≤ x2 ∧ x2 < (6 : Nat) := by intros; first | assumption | omega | (split <;> omega))
    (v4 : (x2 < I a1 0) → -2147483648 ≤ x2 + 1 ∧ x2 + 1 ≤ 2147483647 := by intros; first | assumption | omega | (split <;> omega)) : L_X9_begin_9 d 126 a1 x2 I S h1 :=
  
  b_X9_begin_9  (fun (c1 : I a1 0 ≤ x2) => ev_retV (e1 c1) (b_X9_begin_38 )) (fun (c2 : x2 < I a1 0) => 
    b_X9_begin_17 (ly_X9_1 hl0) (ly_X7_1 hl1) (v1 c2) (v2 c2) (v3 c2) (v4 c2) ((k1 c2)))
abbrev L_X12_isC_31 (d : Nat) (a0 : Nat) (x1 : Int) (x2 : Int) (I : Nat → Nat → Int) (S : PS) (v : Int) (h1 : PM) : Prop := Ev (d + 1) mX12_isC (31, [some (vR (some (22, 0, a0))), some (vI x1), some (vI x2)], [], (I, S)) (.inl (some (vI v)), h1)
theorem w_X12_isC_0 {d : Nat} {I : Nat → Nat → Int} {S : PS} {x1 : Int} {v : Int} {h1 : PM} (hl0 : LyX12 S)
    (k1 : (I 159 ((20 * x1) + 10).toNat ≠ 0) → ((smI (fun k => I 170 ((96 * x1) + (k : Int)).toNat) (I 167 x1.toNat).toNat) ≠ 0) → L_X12_isC_31 d 156 x1 0 I S v h1)
    (r1 : (I 159 ((20 * x1) + 10).toNat = 0) → 0 = v)
    (e1 : (I 159 ((20 * x1) + 10).toNat = 0) → (I, S) = h1 := by intros; rfl)
    (r2 : (I 159 ((20 * x1) + 10).toNat ≠ 0) → ((smI (fun k => I 170 ((96 * x1) + (k : Int)).toNat) (I 167 x1.toNat).toNat) = 0) → 0 = v)
    (e2 : (I 159 ((20 * x1) + 10).toNat ≠ 0) → ((smI (fun k => I 170 ((96 * x1) + (k : Int)).toNat) (I 167 x1.toNat).toNat) = 0) → (I, S) = h1 := by intros; rfl)
    (v1 : -2147483648 ≤ 20 * x1 ∧ 20 * x1 ≤ 2147483647 := by intros; first | assumption | omega | (split <;> omega))
    (v2 : -2147483648 ≤ (20 * x1) + 10 ∧ (20 * x1) + 10 ≤ 2147483647 := by intros; first | assumption | omega | (split <;> omega))
    (v3 : 0 ≤ (20 * x1) + 10 ∧ (20 * x1) + 10 < (80 : Nat) := by intros; first | assumption | omega | (split <;> omega))
    (v4 : (I 159 ((20 * x1) + 10).toNat ≠ 0) → 0 ≤ x1 ∧ x1 < 4 := by intros; first | assumption | omega | (split <;> omega))
    (v5 : (I 159 ((20 * x1) + 10).toNat ≠ 0) → 0 ≤ I 167 x1.toNat ∧ I 167 x1.toNat ≤ 96 := by intros; first | assumption | omega | (split <;> omega))
    (v6 : (I 159 ((20 * x1) + 10).toNat ≠ 0) → ∀ k : Nat, (k : Int) < I 167 x1.toNat → 0 ≤ I 170 ((96 * x1) + (k : Int)).toNat ∧ I 170 ((96 * x1) + (k : Int)).toNat ≤ 1 := by intros; first | assumption | omega | (split <;> omega)) : Ca (d + 1) mX12_isC [vR (some (22, 0, 156)), vI x1] (I, S) (.inl (some (vI v))) h1 :=
  Ca.of rfl rfl (
  b_X12_isC_0 (ly_X12_19 hl0) v1 v2 v3 (fun (c1 : I 159 ((20 * x1) + 10).toNat = 0) => ev_ret2 (r1 c1) (e1 c1) (b_X12_isC_27 )) (fun (c2 : I 159 ((20 * x1) + 10).toNat ≠ 0) => 
    b_X12_isC_15 (ly_X12_30 hl0) (c_X12_sumOf hl0 (v4 c2) (by first | decide | exact (show 384 = 384 from by decide)) (v5 c2) (v6 c2)) (
    b_X12_isC_24  (fun (c3 : (smI (fun k => I 170 ((96 * x1) + (k : Int)).toNat) (I 167 x1.toNat).toNat) ≠ 0) => 
      b_X12_isC_29  ((k1 c2 c3))) (fun (c4 : (smI (fun k => I 170 ((96 * x1) + (k : Int)).toNat) (I 167 x1.toNat).toNat) = 0) => ev_ret2 (r2 c2 c4) (e2 c2 c4) (b_X12_isC_27 )))))
theorem w_X12_isC_31 {d : Nat} {I : Nat → Nat → Int} {S : PS} {x1 x2 : Int} {v : Int} {h1 : PM} (hl0 : LyX12 S)
    (k1 : (x2 < I 167 x1.toNat) → (I 170 ((96 * x1) + x2).toNat ≠ 1) → L_X12_isC_31 d 156 x1 (x2 + 1) I S v h1)
    (k2 : (x2 < I 167 x1.toNat) → (I 170 ((96 * x1) + x2).toNat = 1) → (I 171 ((96 * x1) + x2).toNat ≠ (-1)) → L_X12_isC_31 d 156 x1 (x2 + 1) I S v h1)
    (r1 : (I 167 x1.toNat ≤ x2) → 1 = v)
    (e1 : (I 167 x1.toNat ≤ x2) → (I, S) = h1 := by intros; rfl)
    (r2 : (x2 < I 167 x1.toNat) → (I 170 ((96 * x1) + x2).toNat = 1) → (I 171 ((96 * x1) + x2).toNat = (-1)) → 0 = v)
    (e2 : (x2 < I 167 x1.toNat) → (I 170 ((96 * x1) + x2).toNat = 1) → (I 171 ((96 * x1) + x2).toNat = (-1)) → (I, S) = h1 := by intros; rfl)
    (v1 : 0 ≤ x1 ∧ x1 < (4 : Nat) := by intros; first | assumption | omega | (split <;> omega))
    (v2 : (x2 < I 167 x1.toNat) → -2147483648 ≤ 96 * x1 ∧ 96 * x1 ≤ 2147483647 := by intros; first | assumption | omega | (split <;> omega))
    (v3 : (x2 < I 167 x1.toNat) → -2147483648 ≤ (96 * x1) + x2 ∧ (96 * x1) + x2 ≤ 2147483647 := by intros; first | assumption | omega | (split <;> omega))
    (v4 : (x2 < I 167 x1.toNat) → 0 ≤ (96 * x1) + x2 ∧ (96 * x1) + x2 < (384 : Nat) := by intros; first | assumption | omega | (split <;> omega))
    (v5 : (x2 < I 167 x1.toNat) → (I 170 ((96 * x1) + x2).toNat ≠ 1) → -2147483648 ≤ x2 + 1 ∧ x2 + 1 ≤ 2147483647 := by intros; first | assumption | omega | (split <;> omega))
    (v6 : (x2 < I 167 x1.toNat) → (I 170 ((96 * x1) + x2).toNat = 1) → (I 171 ((96 * x1) + x2).toNat ≠ (-1)) → -2147483648 ≤ x2 + 1 ∧ x2 + 1 ≤ 2147483647 := by intros; first | assumption | omega | (split <;> omega)) : L_X12_isC_31 d 156 x1 x2 I S v h1 :=
  
  b_X12_isC_31 (ly_X12_27 hl0) v1 (fun (c1 : I 167 x1.toNat ≤ x2) => ev_ret2 (r1 c1) (e1 c1) (b_X12_isC_79 )) (fun (c2 : x2 < I 167 x1.toNat) => 
    b_X12_isC_41 (ly_X12_30 hl0) (v2 c2) (v3 c2) (v4 c2) (fun (c3 : I 170 ((96 * x1) + x2).toNat ≠ 1) => 
      b_X12_isC_73 (v5 c2 c3) ((k1 c2 c3))) (fun (c4 : I 170 ((96 * x1) + x2).toNat = 1) => 
      b_X12_isC_56 (ly_X12_31 hl0) (v2 c2) (v3 c2) (v4 c2) (fun (c5 : I 171 ((96 * x1) + x2).toNat ≠ (-1)) => 
        b_X12_isC_73 (v6 c2 c4 c5) ((k2 c2 c4 c5))) (fun (c6 : I 171 ((96 * x1) + x2).toNat = (-1)) => ev_ret2 (r2 c2 c4 c6) (e2 c2 c4 c6) (b_X12_isC_71 ))))
abbrev L_X12_edgesOf_4 (d : Nat) (a0 : Nat) (x1 : Int) (x2 : Int) (x3 : Int) (I : Nat → Nat → Int) (S : PS) (v : Int) (h1 : PM) : Prop := Ev (d + 2) mX12_edgesOf (4, [some (vR (some (22, 0, a0))), some (vI x1), some (vI x2), some (vI x3)], [], (I, S)) (.inl (some (vI v)), h1)
theorem w_X12_edgesOf_0 {d : Nat} {I : Nat → Nat → Int} {S : PS} {x1 : Int} {v : Int} {h1 : PM} (hl0 : LyX12 S)
    (k1 : L_X12_edgesOf_4 d 156 x1 0 0 I S v h1) : Ca (d + 2) mX12_edgesOf [vR (some (22, 0, 156)), vI x1] (I, S) (.inl (some (vI v))) h1 :=
  Ca.of rfl rfl (
  b_X12_edgesOf_0  (k1))
theorem w_X12_edgesOf_4 {d : Nat} {I : Nat → Nat → Int} {S : PS} {x1 x2 x3 : Int} {v : Int} {h1 : PM} (hl0 : LyX12 S)
    (k1 : (x3 < ((I 159 ((20 * x1) + 9).toNat) + 1) + (I 159 ((20 * x1) + 1).toNat)) → L_X12_edgesOf_4 d 156 x1 (x2 + (bcn (I 165 ((15 * x1) + x3).toNat) 15)) (x3 + 1) I S v h1)
    (r1 : (((I 159 ((20 * x1) + 9).toNat) + 1) + (I 159 ((20 * x1) + 1).toNat) ≤ x3) → x2 / 2 = v)
    (e1 : (((I 159 ((20 * x1) + 9).toNat) + 1) + (I 159 ((20 * x1) + 1).toNat) ≤ x3) → (I, S) = h1 := by intros; rfl)
    (v1 : 0 ≤ x1 ∧ x1 < 4 := by intros; first | assumption | omega | (split <;> omega))
    (v2 : 0 ≤ I 159 ((20 * x1) + 9).toNat ∧ I 159 ((20 * x1) + 9).toNat ≤ 7 := by intros; first | assumption | omega | (split <;> omega))
    (v3 : 0 ≤ I 159 ((20 * x1) + 1).toNat ∧ I 159 ((20 * x1) + 1).toNat ≤ 7 := by intros; first | assumption | omega | (split <;> omega))
    (v4 : (((I 159 ((20 * x1) + 9).toNat) + 1) + (I 159 ((20 * x1) + 1).toNat) ≤ x3) → (0 ≤ x2 ∧ x2 ≤ 2147483647) ∧ 0 < (2 : Int) ∧ (2 : Int) ≤ 2147483647 := by intros; first | assumption | omega | (split <;> omega))
    (v5 : (x3 < ((I 159 ((20 * x1) + 9).toNat) + 1) + (I 159 ((20 * x1) + 1).toNat)) → -2147483648 ≤ 15 * x1 ∧ 15 * x1 ≤ 2147483647 := by intros; first | assumption | omega | (split <;> omega))
    (v6 : (x3 < ((I 159 ((20 * x1) + 9).toNat) + 1) + (I 159 ((20 * x1) + 1).toNat)) → -2147483648 ≤ (15 * x1) + x3 ∧ (15 * x1) + x3 ≤ 2147483647 := by intros; first | assumption | omega | (split <;> omega))
    (v7 : (x3 < ((I 159 ((20 * x1) + 9).toNat) + 1) + (I 159 ((20 * x1) + 1).toNat)) → 0 ≤ (15 * x1) + x3 ∧ (15 * x1) + x3 < (60 : Nat) := by intros; first | assumption | omega | (split <;> omega))
    (v8 : (x3 < ((I 159 ((20 * x1) + 9).toNat) + 1) + (I 159 ((20 * x1) + 1).toNat)) → -2147483648 ≤ x2 + (bcn (I 165 ((15 * x1) + x3).toNat) 15) ∧ x2 + (bcn (I 165 ((15 * x1) + x3).toNat) 15) ≤ 2147483647 := by intros; first | assumption | omega | (split <;> omega))
    (v9 : (x3 < ((I 159 ((20 * x1) + 9).toNat) + 1) + (I 159 ((20 * x1) + 1).toNat)) → -2147483648 ≤ x3 + 1 ∧ x3 + 1 ≤ 2147483647 := by intros; first | assumption | omega | (split <;> omega)) : L_X12_edgesOf_4 d 156 x1 x2 x3 I S v h1 :=
  
  b_X12_edgesOf_4  (c_X12_vertices hl0 v1 v2 v3) (
  b_X12_edgesOf_10  (fun (c1 : ((I 159 ((20 * x1) + 9).toNat) + 1) + (I 159 ((20 * x1) + 1).toNat) ≤ x3) => ev_ret2 (r1 c1) (e1 c1) (b_X12_edgesOf_36 (v4 c1))) (fun (c2 : x3 < ((I 159 ((20 * x1) + 9).toNat) + 1) + (I 159 ((20 * x1) + 1).toNat)) => 
    b_X12_edgesOf_13 (ly_X12_25 hl0) (v5 c2) (v6 c2) (v7 c2) c_X12_bits (
    b_X12_edgesOf_28 (v8 c2) (v9 c2) ((k1 c2)))))
abbrev L_X12_named_23 (d : Nat) (a0 : Nat) (x1 : Int) (x2 : Int) (x3 : Int) (x4 : Int) (x5 : Int) (I : Nat → Nat → Int) (S : PS) (v : Int) (h1 : PM) : Prop := Ev (d + 3) mX12_named (23, [some (vR (some (22, 0, a0))), some (vI x1), some (vI x2), some (vI x3), some (vI x4), some (vI x5)], [], (I, S)) (.inl (some (vI v)), h1)
theorem w_X12_named_0 {d : Nat} {I : Nat → Nat → Int} {S : PS} {x1 x2 : Int} {v : Int} {h1 : PM} (hl0 : LyX12 S)
    (k1 : ((((0 ≤ x1) ∧ (x1 < I 156 13)))) → L_X12_named_23 d 156 x1 x2 0 x2 0 (up2 I 156 0 0) S v h1)
    (r1 : (¬(((0 ≤ x1) ∧ (x1 < I 156 13)))) → 0 = v)
    (e1 : (¬(((0 ≤ x1) ∧ (x1 < I 156 13)))) → ((up2 (up2 I 156 0 0) 156 0 1), S) = h1 := by intros; rfl) : Ca (d + 3) mX12_named [vR (some (22, 0, 156)), vI x1, vI x2] (I, S) (.inl (some (vI v))) h1 :=
  Ca.of rfl rfl (
  (Classical.em ((((0 ≤ x1) ∧ (x1 < I 156 13))))).elim (fun c1 => 
    b_X12_named_0  (c_X12_isPiece_y hl0 (by first | decide | exact (show 0 = 0 from by decide)) c1) (
    b_X12_named_10  (fun _ => 
      b_X12_named_15  ((k1 c1))) (fun c => absurd c (by decide)))) (fun c2 => 
    b_X12_named_0  (c_X12_isPiece_n hl0 (by first | decide | exact (show 0 = 0 from by decide)) c2) (
    b_X12_named_10  (fun c => absurd c (by decide)) (fun _ => ev_ret2 (r1 c2) (e1 c2) (b_X12_named_13 )))))
theorem w_X12_named_23 {d : Nat} {I : Nat → Nat → Int} {S : PS} {x1 x2 x3 x4 x5 : Int} {v : Int} {h1 : PM} (hl0 : LyX12 S)
    (k1 : (x5 < I 159 ((20 * x1) + 9).toNat) → (p_rem x4 10 ≤ 3) → (0 ≤ x4) → L_X12_named_23 d 156 x1 x2 (p_or x3 (p_shl (p_rem x4 10) (2 * x5))) (p_div x4 10) (x5 + 1) I S v h1)
    (r1 : (I 159 ((20 * x1) + 9).toNat ≤ x5) → (x4 ≠ 0) → (-1) = v)
    (e1 : (I 159 ((20 * x1) + 9).toNat ≤ x5) → (x4 ≠ 0) → (I, S) = h1 := by intros; rfl)
    (r2 : (I 159 ((20 * x1) + 9).toNat ≤ x5) → (x4 = 0) → (isPr (I 159 ((20 * x1) + 9).toNat) x3 = true) → (fstB (fun k => decide (I 168 ((96 * x1) + (k : Int)).toNat = ((nmS (I 159 ((20 * x1) + 9).toNat) x3 (I 159 ((20 * x1) + 9).toNat).toNat).1))) ((nmI I (I 159 ((20 * x1) + 9).toNat) x3) 167 x1.toNat).toNat) = v)
    (e2 : (I 159 ((20 * x1) + 9).toNat ≤ x5) → (x4 = 0) → (isPr (I 159 ((20 * x1) + 9).toNat) x3 = true) → ((nmI I (I 159 ((20 * x1) + 9).toNat) x3), S) = h1 := by intros; rfl)
    (r3 : (I 159 ((20 * x1) + 9).toNat ≤ x5) → (x4 = 0) → (¬(isPr (I 159 ((20 * x1) + 9).toNat) x3 = true)) → (-1) = v)
    (e3 : (I 159 ((20 * x1) + 9).toNat ≤ x5) → (x4 = 0) → (¬(isPr (I 159 ((20 * x1) + 9).toNat) x3 = true)) → (I, S) = h1 := by intros; rfl)
    (r4 : (x5 < I 159 ((20 * x1) + 9).toNat) → (3 < p_rem x4 10) → (-1) = v)
    (e4 : (x5 < I 159 ((20 * x1) + 9).toNat) → (3 < p_rem x4 10) → (I, S) = h1 := by intros; rfl)
    (r5 : (x5 < I 159 ((20 * x1) + 9).toNat) → (p_rem x4 10 ≤ 3) → (x4 < 0) → (-1) = v)
    (e5 : (x5 < I 159 ((20 * x1) + 9).toNat) → (p_rem x4 10 ≤ 3) → (x4 < 0) → (I, S) = h1 := by intros; rfl)
    (v1 : 0 ≤ x1 ∧ x1 < 4 := by intros; first | assumption | omega | (split <;> omega))
    (v2 : (I 159 ((20 * x1) + 9).toNat ≤ x5) → (x4 = 0) → 1 ≤ I 159 ((20 * x1) + 9).toNat ∧ I 159 ((20 * x1) + 9).toNat ≤ 7 := by intros; first | assumption | omega | (split <;> omega))
    (v3 : (I 159 ((20 * x1) + 9).toNat ≤ x5) → (x4 = 0) → (isPr (I 159 ((20 * x1) + 9).toNat) x3 = true) → 0 ≤ I 159 ((20 * x1) + 9).toNat ∧ I 159 ((20 * x1) + 9).toNat ≤ 7 := by intros; first | assumption | omega | (split <;> omega))
    (v4 : (I 159 ((20 * x1) + 9).toNat ≤ x5) → (x4 = 0) → (isPr (I 159 ((20 * x1) + 9).toNat) x3 = true) → 0 ≤ (nmI I (I 159 ((20 * x1) + 9).toNat) x3) 167 x1.toNat ∧ (nmI I (I 159 ((20 * x1) + 9).toNat) x3) 167 x1.toNat ≤ 96 := by intros; first | assumption | omega | (split <;> omega))
    (v5 : (x5 < I 159 ((20 * x1) + 9).toNat) → (p_rem x4 10 ≤ 3) → (0 ≤ x4) → -2147483648 ≤ 2 * x5 ∧ 2 * x5 ≤ 2147483647 := by intros; first | assumption | omega | (split <;> omega))
    (v6 : (x5 < I 159 ((20 * x1) + 9).toNat) → (p_rem x4 10 ≤ 3) → (0 ≤ x4) → -2147483648 ≤ x5 + 1 ∧ x5 + 1 ≤ 2147483647 := by intros; first | assumption | omega | (split <;> omega)) : L_X12_named_23 d 156 x1 x2 x3 x4 x5 I S v h1 :=
  
  b_X12_named_23  (c_X12_ring hl0 v1) (
  b_X12_named_30  (fun (c1 : I 159 ((20 * x1) + 9).toNat ≤ x5) => 
    b_X12_named_75  (fun (c3 : x4 ≠ 0) => 
      b_X12_named_89  (ev_ret2 (r1 c1 c3) (e1 c1 c3) (b_X12_named_104 ))) (fun (c4 : x4 = 0) => 
      b_X12_named_80  (c_X12_isProper hl0 v1 (v2 c1 c4)) (
      b_X12_named_86  (fun c5' => have c5 : isPr (I 159 ((20 * x1) + 9).toNat) x3 = true := b2t c5'; 
        b_X12_named_93  (c_X12_named0 hl0 v1 (v3 c1 c4 c5)) (
        b_X12_named_101  (c_X12_find hl0 v1 (v4 c1 c4 c5)) (ev_ret2 (r2 c1 c4 c5) (e2 c1 c4 c5) (b_X12_named_104 )))) (fun c6' => have c6 : ¬(isPr (I 159 ((20 * x1) + 9).toNat) x3 = true) := b2f c6'; 
        b_X12_named_89  (ev_ret2 (r3 c1 c4 c6) (e3 c1 c4 c6) (b_X12_named_104 )))))) (fun (c2 : x5 < I 159 ((20 * x1) + 9).toNat) => 
    b_X12_named_33  (fun (c7 : 3 < p_rem x4 10) => ev_ret2 (r4 c2 c7) (e4 c2 c7) (b_X12_named_47 )) (fun (c8 : p_rem x4 10 ≤ 3) => 
      b_X12_named_42  (fun (c9 : 0 ≤ x4) => 
        b_X12_named_49 (v5 c2 c8 c9) (v6 c2 c8 c9) ((k1 c2 c8 c9))) (fun (c10 : x4 < 0) => ev_ret2 (r5 c2 c8 c10) (e5 c2 c8 c10) (b_X12_named_47 )))))
abbrev L_X12_chargeBy_11 (d : Nat) (a0 : Nat) (x1 : Int) (x2 : Int) (x3 : Int) (x4 : Int) (I : Nat → Nat → Int) (S : PS) (v : Int) (h1 : PM) : Prop := Ev (d + 3) mX12_chargeBy (11, [some (vR (some (22, 0, a0))), some (vI x1), some (vI x2), some (vI x3), some (vI x4), none, none], [], (I, S)) (.inl (some (vI v)), h1)
theorem w_X12_chargeBy_0 {d : Nat} {I : Nat → Nat → Int} {S : PS} {x1 x2 : Int} {v : Int} {h1 : PM} (hl0 : LyX12 S)
    (k1 : L_X12_chargeBy_11 d 156 x1 x2 (10 * (6 - x2)) 0 I S v h1)
    (v1 : -2147483648 ≤ 6 - x2 ∧ 6 - x2 ≤ 2147483647 := by intros; first | assumption | omega | (split <;> omega))
    (v2 : -2147483648 ≤ 10 * (6 - x2) ∧ 10 * (6 - x2) ≤ 2147483647 := by intros; first | assumption | omega | (split <;> omega)) : Ca (d + 3) mX12_chargeBy [vR (some (22, 0, 156)), vI x1, vI x2] (I, S) (.inl (some (vI v))) h1 :=
  Ca.of rfl rfl (
  b_X12_chargeBy_0 v1 v2 (k1))
theorem w_X12_chargeBy_11 {d : Nat} {I : Nat → Nat → Int} {S : PS} {x1 x2 x3 x4 : Int} {v : Int} {h1 : PM} (hl0 : LyX12 S)
    (k1 : (x4 < x2) → L_X12_chargeBy_11 d 156 x1 x2 (x3 + ((snM I x1 (I 177 x4.toNat) x2 (I 177 ((x4 + x2 - 1) % x2).toNat) (I 177 ((x4 + 1) % x2).toNat) ((I 156 14)).toNat) - (snM I x1 x2 (I 177 x4.toNat) (I 177 ((x4 + x2 - 1) % x2).toNat) (I 177 ((x4 + 1) % x2).toNat) ((I 156 14)).toNat))) (x4 + 1) I S v h1)
    (r1 : (x2 ≤ x4) → x3 = v)
    (e1 : (x2 ≤ x4) → (I, S) = h1 := by intros; rfl)
    (v1 : (x4 < x2) → -2147483648 ≤ x4 + x2 ∧ x4 + x2 ≤ 2147483647 := by intros; first | assumption | omega | (split <;> omega))
    (v2 : (x4 < x2) → -2147483648 ≤ x4 + x2 - 1 ∧ x4 + x2 - 1 ≤ 2147483647 := by intros; first | assumption | omega | (split <;> omega))
    (v3 : (x4 < x2) → (0 ≤ x4 + x2 - 1 ∧ x4 + x2 - 1 ≤ 2147483647) ∧ 0 < x2 ∧ x2 ≤ 2147483647 := by intros; first | assumption | omega | (split <;> omega))
    (v4 : (x4 < x2) → 0 ≤ (x4 + x2 - 1) % x2 ∧ (x4 + x2 - 1) % x2 < (9 : Nat) := by intros; first | assumption | omega | (split <;> omega))
    (v5 : (x4 < x2) → -2147483648 ≤ x4 + 1 ∧ x4 + 1 ≤ 2147483647 := by intros; first | assumption | omega | (split <;> omega))
    (v6 : (x4 < x2) → (0 ≤ x4 + 1 ∧ x4 + 1 ≤ 2147483647) ∧ 0 < x2 ∧ x2 ≤ 2147483647 := by intros; first | assumption | omega | (split <;> omega))
    (v7 : (x4 < x2) → 0 ≤ (x4 + 1) % x2 ∧ (x4 + 1) % x2 < (9 : Nat) := by intros; first | assumption | omega | (split <;> omega))
    (v8 : (x4 < x2) → 0 ≤ x4 ∧ x4 < (9 : Nat) := by intros; first | assumption | omega | (split <;> omega))
    (v9 : (x4 < x2) → x1 = 0 ∨ x1 = 18 := by intros; first | assumption | omega | (split <;> omega))
    (v10 : (x4 < x2) → 0 ≤ (I 156 14) ∧ (I 156 14) ≤ 6 := by intros; first | assumption | omega | (split <;> omega))
    (v11 : (x4 < x2) → ∀ k : Nat, (k : Int) < (I 156 14) → 0 ≤ I 178 (x1 + 12 + (k : Int)).toNat ∧ I 178 (x1 + 12 + (k : Int)).toNat ≤ 99 := by intros; first | assumption | omega | (split <;> omega))
    (v12 : (x4 < x2) → -2147483648 ≤ (snM I x1 (I 177 x4.toNat) x2 (I 177 ((x4 + x2 - 1) % x2).toNat) (I 177 ((x4 + 1) % x2).toNat) ((I 156 14)).toNat) - (snM I x1 x2 (I 177 x4.toNat) (I 177 ((x4 + x2 - 1) % x2).toNat) (I 177 ((x4 + 1) % x2).toNat) ((I 156 14)).toNat) ∧ (snM I x1 (I 177 x4.toNat) x2 (I 177 ((x4 + x2 - 1) % x2).toNat) (I 177 ((x4 + 1) % x2).toNat) ((I 156 14)).toNat) - (snM I x1 x2 (I 177 x4.toNat) (I 177 ((x4 + x2 - 1) % x2).toNat) (I 177 ((x4 + 1) % x2).toNat) ((I 156 14)).toNat) ≤ 2147483647 := by intros; first | assumption | omega | (split <;> omega))
    (v13 : (x4 < x2) → -2147483648 ≤ x3 + ((snM I x1 (I 177 x4.toNat) x2 (I 177 ((x4 + x2 - 1) % x2).toNat) (I 177 ((x4 + 1) % x2).toNat) ((I 156 14)).toNat) - (snM I x1 x2 (I 177 x4.toNat) (I 177 ((x4 + x2 - 1) % x2).toNat) (I 177 ((x4 + 1) % x2).toNat) ((I 156 14)).toNat)) ∧ x3 + ((snM I x1 (I 177 x4.toNat) x2 (I 177 ((x4 + x2 - 1) % x2).toNat) (I 177 ((x4 + 1) % x2).toNat) ((I 156 14)).toNat) - (snM I x1 x2 (I 177 x4.toNat) (I 177 ((x4 + x2 - 1) % x2).toNat) (I 177 ((x4 + 1) % x2).toNat) ((I 156 14)).toNat)) ≤ 2147483647 := by intros; first | assumption | omega | (split <;> omega)) : L_X12_chargeBy_11 d 156 x1 x2 x3 x4 I S v h1 :=
  
  b_X12_chargeBy_11  (fun (c1 : x2 ≤ x4) => ev_ret2 (r1 c1) (e1 c1) (b_X12_chargeBy_89 )) (fun (c2 : x4 < x2) => 
    b_X12_chargeBy_17 (ly_X12_38 hl0) (v1 c2) (v2 c2) (v3 c2) (v4 c2) (v5 c2) (v6 c2) (v7 c2) (v8 c2) (c_X12_sends0 hl0 (v9 c2) (v10 c2) (v11 c2)) (
    b_X12_chargeBy_63 (ly_X12_38 hl0) (v8 c2) (c_X12_sends0 hl0 (v9 c2) (v10 c2) (v11 c2)) (
    b_X12_chargeBy_80 (v12 c2) (v13 c2) (v5 c2) ((k1 c2)))))
abbrev L_X12_holds_4 (d : Nat) (a0 : Nat) (x1 : Int) (x2 : Int) (x3 : Int) (I : Nat → Nat → Int) (S : PS) (v : Int) (h1 : PM) : Prop := Ev (d + 1) mX12_holds (4, [some (vR (some (22, 0, a0))), some (vI x1), some (vI x2), some (vI x3)], [], (I, S)) (.inl (some (vI v)), h1)
theorem w_X12_holds_0 {d : Nat} {I : Nat → Nat → Int} {S : PS} {x1 : Int} {v : Int} {h1 : PM} (hl0 : LyX12 S)
    (k1 : L_X12_holds_4 d 156 x1 0 0 I S v h1) : Ca (d + 1) mX12_holds [vR (some (22, 0, 156)), vI x1] (I, S) (.inl (some (vI v))) h1 :=
  Ca.of rfl rfl (
  b_X12_holds_0  (k1))
theorem w_X12_holds_4 {d : Nat} {I : Nat → Nat → Int} {S : PS} {x1 x2 x3 : Int} {v : Int} {h1 : PM} (hl0 : LyX12 S)
    (k1 : (x3 < I 156 13) → L_X12_holds_4 d 156 x1 (p_or x2 (if ¬(hdM I x3 x1 = true) then (0 : Int) else p_shl 1 x3)) (x3 + 1) I S v h1)
    (r1 : (I 156 13 ≤ x3) → x2 = v)
    (e1 : (I 156 13 ≤ x3) → (I, S) = h1 := by intros; rfl)
    (v1 : (x3 < I 156 13) → 0 ≤ x3 ∧ x3 < 4 := by intros; first | assumption | omega | (split <;> omega))
    (v2 : (x3 < I 156 13) → 1 ≤ x1 ∧ x1 ≤ 9 := by intros; first | assumption | omega | (split <;> omega))
    (v3 : (x3 < I 156 13) → 0 ≤ I 159 ((20 * x3) + 1).toNat ∧ I 159 ((20 * x3) + 1).toNat ≤ 7 := by intros; first | assumption | omega | (split <;> omega))
    (v4 : (x3 < I 156 13) → I 159 (20 * x3).toNat = x1 → I 159 ((20 * x3) + 1).toNat ≤ x1 := by intros; first | assumption | omega | (split <;> omega))
    (v5 : (x3 < I 156 13) → -2147483648 ≤ x3 + 1 ∧ x3 + 1 ≤ 2147483647 := by intros; first | assumption | omega | (split <;> omega)) : L_X12_holds_4 d 156 x1 x2 x3 I S v h1 :=
  
  b_X12_holds_4  (fun (c1 : I 156 13 ≤ x3) => ev_ret2 (r1 c1) (e1 c1) (b_X12_holds_37 )) (fun (c2 : x3 < I 156 13) => 
    b_X12_holds_12  (c_X12_doesHold hl0 (v1 c2) (v2 c2) (v3 c2) (v4 c2)) (
    have K4 : ∀ us1 : Int, us1 = (if ¬(hdM I x3 x1 = true) then (0 : Int) else p_shl 1 x3) → Ev (d + 1) mX12_holds (29, [some (vR (some (22, 0, 156))), some (vI x1), some (vI x2), some (vI x3)], [vI us1, vI x2], (I, S)) (.inl (some (vI v)), h1) := fun us1 e_us1 => by subst e_us1; exact (
      b_X12_holds_29 (v5 c2) ((k1 c2)))
    
    b_X12_holds_19  (fun c3' => have c3 : ¬(hdM I x3 x1 = true) := b2f c3'; 
      b_X12_holds_28  (K4 0 ((if_pos c3).symm))) (fun c4' => have c4 : hdM I x3 x1 = true := b2t c4'; 
      b_X12_holds_22  (K4 (p_shl 1 x3) ((if_neg (fun q => q c4)).symm)))))
abbrev L_X12_laysOpen_11 (d : Nat) (a0 : Nat) (x1 : Int) (I : Nat → Nat → Int) (S : PS) (h1 : PM) : Prop := Ev (d + 1) mX12_laysOpen (11, [some (vR (some (22, 0, a0))), some (vI x1)], [], (I, S)) (.inl none, h1)
theorem w_X12_laysOpen_0 {d : Nat} {I : Nat → Nat → Int} {S : PS} {h1 : PM} (hl0 : LyX12 S)
    (k1 : L_X12_laysOpen_11 d 156 0 (trI (up2 I 156 44 0)) S h1) : Ca (d + 1) mX12_laysOpen [vR (some (22, 0, 156))] (I, S) (.inl none) h1 :=
  Ca.of rfl rfl (
  b_X12_laysOpen_0  (c_X12_tries hl0) (
  b_X12_laysOpen_9  (k1)))
theorem w_X12_laysOpen_11 {d : Nat} {I : Nat → Nat → Int} {S : PS} {x1 : Int} {h1 : PM} (hl0 : LyX12 S)
    (k1 : (x1 < I 156 15) → (I 178 x1.toNat = (-1)) → L_X12_laysOpen_11 d 156 (x1 + 1) (up2 (up2 I 180 ((I 156 44).toNat) x1) 156 44 (I 156 44 + 1)) S h1)
    (k2 : (x1 < I 156 15) → (I 178 x1.toNat ≠ (-1)) → L_X12_laysOpen_11 d 156 (x1 + 1) I S h1)
    (e1 : (I 156 15 ≤ x1) → (I, S) = h1 := by intros; rfl)
    (v1 : (x1 < I 156 15) → 0 ≤ x1 ∧ x1 < (36 : Nat) := by intros; first | assumption | omega | (split <;> omega))
    (v2 : (x1 < I 156 15) → (I 178 x1.toNat = (-1)) → 0 ≤ I 156 44 ∧ I 156 44 < (12 : Nat) := by intros; first | assumption | omega | (split <;> omega))
    (v3 : (x1 < I 156 15) → (I 178 x1.toNat = (-1)) → -2147483648 ≤ I 156 44 + 1 ∧ I 156 44 + 1 ≤ 2147483647 := by intros; first | assumption | omega | (split <;> omega))
    (v4 : (x1 < I 156 15) → (I 178 x1.toNat = (-1)) → -2147483648 ≤ x1 + 1 ∧ x1 + 1 ≤ 2147483647 := by intros; first | assumption | omega | (split <;> omega))
    (v5 : (x1 < I 156 15) → (I 178 x1.toNat ≠ (-1)) → -2147483648 ≤ x1 + 1 ∧ x1 + 1 ≤ 2147483647 := by intros; first | assumption | omega | (split <;> omega)) : L_X12_laysOpen_11 d 156 x1 I S h1 :=
  
  b_X12_laysOpen_11  (fun (c1 : I 156 15 ≤ x1) => ev_retV (e1 c1) (b_X12_laysOpen_58 )) (fun (c2 : x1 < I 156 15) => 
    b_X12_laysOpen_19 (ly_X12_39 hl0) (v1 c2) (fun (c3 : I 178 x1.toNat = (-1)) => 
      b_X12_laysOpen_32 (ly_X12_42 hl0) (v2 c2 c3) (v3 c2 c3) (
      b_X12_laysOpen_52 (v4 c2 c3) ((k1 c2 c3)))) (fun (c4 : I 178 x1.toNat ≠ (-1)) => 
      b_X12_laysOpen_29  (
      b_X12_laysOpen_52 (v5 c2 c4) ((k2 c2 c4)))))
abbrev L_X12_image_28 (d : Nat) (a0 : Nat) (x1 : Int) (I : Nat → Nat → Int) (S : PS) (h1 : PM) : Prop := Ev (d + 1) mX12_image (28, [some (vR (some (22, 0, a0))), some (vI x1)], [], (I, S)) (.inl none, h1)
theorem w_X12_image_0 {d : Nat} {I : Nat → Nat → Int} {S : PS} {h1 : PM} (hl0 : LyX12 S)
    (k1 : L_X12_image_28 d 156 0 (up2 (up2 (up2 (up2 I 156 0 0) 156 59 1) 156 60 (I 156 41)) 156 61 (I 156 56)) S h1) : Ca (d + 1) mX12_image [vR (some (22, 0, 156))] (I, S) (.inl none) h1 :=
  Ca.of rfl rfl (
  b_X12_image_0  (k1))
theorem w_X12_image_28 {d : Nat} {I : Nat → Nat → Int} {S : PS} {x1 : Int} {h1 : PM} (hl0 : LyX12 S)
    (k1 : (x1 < 18) → L_X12_image_28 d 156 (x1 + 1) (up2 I 188 (x1.toNat) (I 178 x1.toNat)) S h1)
    (e1 : (18 ≤ x1) → ((up1 (up1 I 189 (upTo (I 189) (I 179) 0 540)) 190 (upTo ((up1 I 189 (upTo (I 189) (I 179) 0 540)) 190) ((up1 I 189 (upTo (I 189) (I 179) 0 540)) 187) 0 16)), S) = h1 := by intros; rfl)
    (v1 : (x1 < 18) → 0 ≤ x1 ∧ x1 < (36 : Nat) := by intros; first | assumption | omega | (split <;> omega))
    (v2 : (x1 < 18) → 0 ≤ x1 ∧ x1 < (18 : Nat) := by intros; first | assumption | omega | (split <;> omega))
    (v3 : (x1 < 18) → -2147483648 ≤ x1 + 1 ∧ x1 + 1 ≤ 2147483647 := by intros; first | assumption | omega | (split <;> omega)) : L_X12_image_28 d 156 x1 I S h1 :=
  
  b_X12_image_28  (fun (c1 : 18 ≤ x1) => 
    b_X12_image_52 (ly_X12_40 hl0) (ly_X12_63 hl0) (c_X12_copies hl0 (by decide) (by decide) (by first | decide | exact (show 179 ≠ 189 from by decide))) (
    b_X12_image_64 (ly_X12_57 hl0) (ly_X12_64 hl0) (c_X12_copies hl0 (by decide) (by decide) (by first | decide | exact (show 187 ≠ 190 from by decide))) (ev_retV (e1 c1) (b_X12_image_76 )))) (fun (c2 : x1 < 18) => 
    b_X12_image_34 (ly_X12_62 hl0) (ly_X12_39 hl0) (v1 c2) (v2 c2) (v3 c2) ((k1 c2)))
abbrev L_X12_restore_32 (d : Nat) (a0 : Nat) (x1 : Int) (I : Nat → Nat → Int) (S : PS) (v : Int) (h1 : PM) : Prop := Ev (d + 1) mX12_restore (32, [some (vR (some (22, 0, a0))), some (vI x1)], [], (I, S)) (.inl (some (vI v)), h1)
theorem w_X12_restore_0 {d : Nat} {I : Nat → Nat → Int} {S : PS} {v : Int} {h1 : PM} (hl0 : LyX12 S)
    (k1 : (I 156 59 ≠ 0) → L_X12_restore_32 d 156 0 (up2 (up2 (up2 I 156 0 0) 156 41 (I 156 60)) 156 56 (I 156 61)) S v h1)
    (r1 : (I 156 59 = 0) → 0 = v)
    (e1 : (I 156 59 = 0) → ((up2 I 156 0 0), S) = h1 := by intros; rfl) : Ca (d + 1) mX12_restore [vR (some (22, 0, 156))] (I, S) (.inl (some (vI v))) h1 :=
  Ca.of rfl rfl (
  b_X12_restore_0  (fun (c1 : I 156 59 ≠ 0) => 
    b_X12_restore_14  ((k1 c1))) (fun (c2 : I 156 59 = 0) => ev_ret2 (r1 c2) (e1 c2) (b_X12_restore_12 )))
theorem w_X12_restore_32 {d : Nat} {I : Nat → Nat → Int} {S : PS} {x1 : Int} {v : Int} {h1 : PM} (hl0 : LyX12 S)
    (k1 : (x1 < 18) → L_X12_restore_32 d 156 (x1 + 1) (up2 I 178 (x1.toNat) (I 188 x1.toNat)) S v h1)
    (r1 : (18 ≤ x1) → 1 = v)
    (e1 : (18 ≤ x1) → ((up1 (up1 I 179 (upTo (I 179) (I 189) 0 540)) 187 (upTo ((up1 I 179 (upTo (I 179) (I 189) 0 540)) 187) ((up1 I 179 (upTo (I 179) (I 189) 0 540)) 190) 0 16)), S) = h1 := by intros; rfl)
    (v1 : (x1 < 18) → 0 ≤ x1 ∧ x1 < (18 : Nat) := by intros; first | assumption | omega | (split <;> omega))
    (v2 : (x1 < 18) → 0 ≤ x1 ∧ x1 < (36 : Nat) := by intros; first | assumption | omega | (split <;> omega))
    (v3 : (x1 < 18) → -2147483648 ≤ x1 + 1 ∧ x1 + 1 ≤ 2147483647 := by intros; first | assumption | omega | (split <;> omega)) : L_X12_restore_32 d 156 x1 I S v h1 :=
  
  b_X12_restore_32  (fun (c1 : 18 ≤ x1) => 
    b_X12_restore_56 (ly_X12_63 hl0) (ly_X12_40 hl0) (c_X12_copies hl0 (by decide) (by decide) (by first | decide | exact (show 189 ≠ 179 from by decide))) (
    b_X12_restore_68 (ly_X12_64 hl0) (ly_X12_57 hl0) (c_X12_copies hl0 (by decide) (by decide) (by first | decide | exact (show 190 ≠ 187 from by decide))) (ev_ret2 (r1 c1) (e1 c1) (b_X12_restore_80 )))) (fun (c2 : x1 < 18) => 
    b_X12_restore_38 (ly_X12_39 hl0) (ly_X12_62 hl0) (v1 c2) (v2 c2) (v3 c2) ((k1 c2)))
abbrev L_X12_knownWord_20 (d : Nat) (a0 : Nat) (x1 : Int) (I : Nat → Nat → Int) (S : PS) (v : Int) (h1 : PM) : Prop := Ev (d + 2) mX12_knownWord (20, [some (vR (some (22, 0, a0))), some (vI x1)], [], (I, S)) (.inl (some (vI v)), h1)
theorem w_X12_knownWord_0 {d : Nat} {I : Nat → Nat → Int} {S : PS} {v : Int} {h1 : PM} (hl0 : LyX12 S)
    (k1 : (I 156 8 = 1) → (I 156 10 ≤ 5) → L_X12_knownWord_20 d 156 0 I S v h1)
    (r1 : (I 156 8 ≠ 1) → (-1) = v)
    (e1 : (I 156 8 ≠ 1) → (I, S) = h1 := by intros; rfl)
    (r2 : (I 156 8 = 1) → (5 < I 156 10) → (-1) = v)
    (e2 : (I 156 8 = 1) → (5 < I 156 10) → (I, S) = h1 := by intros; rfl) : Ca (d + 2) mX12_knownWord [vR (some (22, 0, 156))] (I, S) (.inl (some (vI v))) h1 :=
  Ca.of rfl rfl (
  b_X12_knownWord_0  (fun (c1 : I 156 8 ≠ 1) => ev_ret2 (r1 c1) (e1 c1) (b_X12_knownWord_16 )) (fun (c2 : I 156 8 = 1) => 
    b_X12_knownWord_8  (fun (c3 : I 156 10 ≤ 5) => 
      b_X12_knownWord_18  ((k1 c2 c3))) (fun (c4 : 5 < I 156 10) => ev_ret2 (r2 c2 c4) (e2 c2 c4) (b_X12_knownWord_16 ))))
theorem w_X12_knownWord_20 {d : Nat} {I : Nat → Nat → Int} {S : PS} {x1 : Int} {v : Int} {h1 : PM} (hl0 : LyX12 S)
    (k1 : (x1 < 13) → (p_lcmp (f_X12_letters x1) (I 156 12) ≠ 0) → L_X12_knownWord_20 d 156 (x1 + 1) I S v h1)
    (r1 : (13 ≤ x1) → (-1) = v)
    (e1 : (13 ≤ x1) → (I, S) = h1 := by intros; rfl)
    (r2 : (x1 < 13) → (p_lcmp (f_X12_letters x1) (I 156 12) = 0) → x1 = v)
    (e2 : (x1 < 13) → (p_lcmp (f_X12_letters x1) (I 156 12) = 0) → (I, S) = h1 := by intros; rfl)
    (v1 : (x1 < 13) → (p_lcmp (f_X12_letters x1) (I 156 12) ≠ 0) → -2147483648 ≤ x1 + 1 ∧ x1 + 1 ≤ 2147483647 := by intros; first | assumption | omega | (split <;> omega)) : L_X12_knownWord_20 d 156 x1 I S v h1 :=
  
  b_X12_knownWord_20  (fun (c1 : 13 ≤ x1) => ev_ret2 (r1 c1) (e1 c1) (b_X12_knownWord_46 )) (fun (c2 : x1 < 13) => 
    b_X12_knownWord_26  c_X12_letters (
    b_X12_knownWord_30  (fun (c3 : p_lcmp (f_X12_letters x1) (I 156 12) ≠ 0) => 
      b_X12_knownWord_40 (v1 c2 c3) ((k1 c2 c3))) (fun (c4 : p_lcmp (f_X12_letters x1) (I 156 12) = 0) => ev_ret2 (r2 c2 c4) (e2 c2 c4) (b_X12_knownWord_38 ))))
abbrev L_X12_switched0_6 (d : Nat) (a0 : Nat) (x1 : Int) (x2 : Int) (x3 : Int) (x4 : Int) (x5 : Int) (x6 : Int) (I : Nat → Nat → Int) (S : PS) (v : Int) (h1 : PM) : Prop := Ev (d + 3) mX12_switched0 (6, [some (vR (some (22, 0, a0))), some (vI x1), some (vI x2), some (vI x3), some (vI x4), some (vI x5), some (vI x6), none], [], (I, S)) (.inl (some (vI v)), h1)
theorem w_X12_switched0_0 {d : Nat} {I : Nat → Nat → Int} {S : PS} {x1 x2 x3 x4 : Int} {v : Int} {h1 : PM} (hl0 : LyX12 S)
    (k1 : L_X12_switched0_6 d 156 x1 x2 x3 x4 0 0 I S v h1) : Ca (d + 3) mX12_switched0 [vR (some (22, 0, 156)), vI x1, vI x2, vI x3, vI x4] (I, S) (.inl (some (vI v))) h1 :=
  Ca.of rfl rfl (
  b_X12_switched0_0  (k1))
theorem w_X12_switched0_6 {d : Nat} {I : Nat → Nat → Int} {S : PS} {x1 x2 x3 x4 x5 x6 : Int} {v : Int} {h1 : PM} (hl0 : LyX12 S)
    (k1 : (x6 < I 159 ((20 * x1) + 9).toNat) → L_X12_switched0_6 d 156 x1 x2 x3 x4 (p_or (p_shl x5 2) (if p_and (p_shr x4 (I 175 x6.toNat)) 1 ≠ 1 then (p_and (p_shr x2 (2 * (((I 159 ((20 * x1) + 9).toNat) - 1) - x6))) 3 : Int) else (if (p_and (p_shr x2 (2 * (((I 159 ((20 * x1) + 9).toNat) - 1) - x6))) 3) ≠ 0 then ((if (p_and (p_shr x2 (2 * (((I 159 ((20 * x1) + 9).toNat) - 1) - x6))) 3) ≠ x3 + 1 then (6 - x3 - 1 - (p_and (p_shr x2 (2 * (((I 159 ((20 * x1) + 9).toNat) - 1) - x6))) 3) : Int) else 0) : Int) else x3 + 1))) (x6 + 1) I S v h1)
    (r1 : (I 159 ((20 * x1) + 9).toNat ≤ x6) → (nmS (I 159 ((20 * x1) + 9).toNat) x5 (I 159 ((20 * x1) + 9).toNat).toNat).1 = v)
    (e1 : (I 159 ((20 * x1) + 9).toNat ≤ x6) → ((nmI I (I 159 ((20 * x1) + 9).toNat) x5), S) = h1 := by intros; rfl)
    (v1 : 0 ≤ x1 ∧ x1 < 4 := by intros; first | assumption | omega | (split <;> omega))
    (v2 : (I 159 ((20 * x1) + 9).toNat ≤ x6) → 0 ≤ I 159 ((20 * x1) + 9).toNat ∧ I 159 ((20 * x1) + 9).toNat ≤ 7 := by intros; first | assumption | omega | (split <;> omega))
    (v3 : (x6 < I 159 ((20 * x1) + 9).toNat) → 0 ≤ I 159 ((20 * x1) + 9).toNat ∧ I 159 ((20 * x1) + 9).toNat ≤ 7 := by intros; first | assumption | omega | (split <;> omega))
    (v4 : (x6 < I 159 ((20 * x1) + 9).toNat) → 0 ≤ x6 ∧ x6 ≤ 7 := by intros; first | assumption | omega | (split <;> omega))
    (v5 : (x6 < I 159 ((20 * x1) + 9).toNat) → 0 ≤ x6 ∧ x6 < (7 : Nat) := by intros; first | assumption | omega | (split <;> omega))
    (v6 : (x6 < I 159 ((20 * x1) + 9).toNat) → (p_and (p_shr x4 (I 175 x6.toNat)) 1 = 1) → ((p_and (p_shr x2 (2 * (((I 159 ((20 * x1) + 9).toNat) - 1) - x6))) 3) ≠ 0) → -2147483648 ≤ x3 + 1 ∧ x3 + 1 ≤ 2147483647 := by intros; first | assumption | omega | (split <;> omega))
    (v7 : (x6 < I 159 ((20 * x1) + 9).toNat) → (p_and (p_shr x4 (I 175 x6.toNat)) 1 = 1) → ((p_and (p_shr x2 (2 * (((I 159 ((20 * x1) + 9).toNat) - 1) - x6))) 3) ≠ 0) → ((p_and (p_shr x2 (2 * (((I 159 ((20 * x1) + 9).toNat) - 1) - x6))) 3) ≠ x3 + 1) → -2147483648 ≤ 6 - x3 ∧ 6 - x3 ≤ 2147483647 := by intros; first | assumption | omega | (split <;> omega))
    (v8 : (x6 < I 159 ((20 * x1) + 9).toNat) → (p_and (p_shr x4 (I 175 x6.toNat)) 1 = 1) → ((p_and (p_shr x2 (2 * (((I 159 ((20 * x1) + 9).toNat) - 1) - x6))) 3) ≠ 0) → ((p_and (p_shr x2 (2 * (((I 159 ((20 * x1) + 9).toNat) - 1) - x6))) 3) ≠ x3 + 1) → -2147483648 ≤ 6 - x3 - 1 ∧ 6 - x3 - 1 ≤ 2147483647 := by intros; first | assumption | omega | (split <;> omega))
    (v9 : (x6 < I 159 ((20 * x1) + 9).toNat) → (p_and (p_shr x4 (I 175 x6.toNat)) 1 = 1) → ((p_and (p_shr x2 (2 * (((I 159 ((20 * x1) + 9).toNat) - 1) - x6))) 3) ≠ 0) → ((p_and (p_shr x2 (2 * (((I 159 ((20 * x1) + 9).toNat) - 1) - x6))) 3) ≠ x3 + 1) → -2147483648 ≤ 6 - x3 - 1 - (p_and (p_shr x2 (2 * (((I 159 ((20 * x1) + 9).toNat) - 1) - x6))) 3) ∧ 6 - x3 - 1 - (p_and (p_shr x2 (2 * (((I 159 ((20 * x1) + 9).toNat) - 1) - x6))) 3) ≤ 2147483647 := by intros; first | assumption | omega | (split <;> omega))
    (v10 : (x6 < I 159 ((20 * x1) + 9).toNat) → (p_and (p_shr x4 (I 175 x6.toNat)) 1 = 1) → ((p_and (p_shr x2 (2 * (((I 159 ((20 * x1) + 9).toNat) - 1) - x6))) 3) = 0) → -2147483648 ≤ x3 + 1 ∧ x3 + 1 ≤ 2147483647 := by intros; first | assumption | omega | (split <;> omega))
    (v11 : (x6 < I 159 ((20 * x1) + 9).toNat) → -2147483648 ≤ x6 + 1 ∧ x6 + 1 ≤ 2147483647 := by intros; first | assumption | omega | (split <;> omega)) : L_X12_switched0_6 d 156 x1 x2 x3 x4 x5 x6 I S v h1 :=
  
  b_X12_switched0_6  (c_X12_ring hl0 v1) (
  b_X12_switched0_13  (fun (c1 : I 159 ((20 * x1) + 9).toNat ≤ x6) => 
    b_X12_switched0_66  (c_X12_named0 hl0 v1 (v2 c1)) (ev_ret2 (r1 c1) (e1 c1) (b_X12_switched0_73 ))) (fun (c2 : x6 < I 159 ((20 * x1) + 9).toNat) => 
    b_X12_switched0_16  (c_X12_colourAt hl0 v1 (v3 c2) (v4 c2)) (
    have K4 : ∀ us1 : Int, us1 = (if p_and (p_shr x4 (I 175 x6.toNat)) 1 ≠ 1 then (p_and (p_shr x2 (2 * (((I 159 ((20 * x1) + 9).toNat) - 1) - x6))) 3 : Int) else (if (p_and (p_shr x2 (2 * (((I 159 ((20 * x1) + 9).toNat) - 1) - x6))) 3) ≠ 0 then ((if (p_and (p_shr x2 (2 * (((I 159 ((20 * x1) + 9).toNat) - 1) - x6))) 3) ≠ x3 + 1 then (6 - x3 - 1 - (p_and (p_shr x2 (2 * (((I 159 ((20 * x1) + 9).toNat) - 1) - x6))) 3) : Int) else 0) : Int) else x3 + 1)) → Ev (d + 3) mX12_switched0 (57, [some (vR (some (22, 0, 156))), some (vI x1), some (vI x2), some (vI x3), some (vI x4), some (vI x5), some (vI x6), some (vI (p_and (p_shr x2 (2 * (((I 159 ((20 * x1) + 9).toNat) - 1) - x6))) 3))], [vI us1, vI (p_shl x5 2)], (I, S)) (.inl (some (vI v)), h1) := fun us1 e_us1 => by subst e_us1; exact (
      b_X12_switched0_57 (v11 c2) ((k1 c2)))
    
    b_X12_switched0_24 (ly_X12_35 hl0) (v5 c2) (fun (c3 : p_and (p_shr x4 (I 175 x6.toNat)) 1 ≠ 1) => 
      b_X12_switched0_55  (K4 (p_and (p_shr x2 (2 * (((I 159 ((20 * x1) + 9).toNat) - 1) - x6))) 3) ((if_pos c3).symm))) (fun (c4 : p_and (p_shr x4 (I 175 x6.toNat)) 1 = 1) => 
      b_X12_switched0_46  (c_X12_otherOf (v6 c2 c4) (v7 c2 c4) (v8 c2 c4) (v9 c2 c4) (v10 c2 c4)) (
      b_X12_switched0_52  (K4 (if (p_and (p_shr x2 (2 * (((I 159 ((20 * x1) + 9).toNat) - 1) - x6))) 3) ≠ 0 then ((if (p_and (p_shr x2 (2 * (((I 159 ((20 * x1) + 9).toNat) - 1) - x6))) 3) ≠ x3 + 1 then (6 - x3 - 1 - (p_and (p_shr x2 (2 * (((I 159 ((20 * x1) + 9).toNat) - 1) - x6))) 3) : Int) else 0) : Int) else x3 + 1) ((if_neg (fun q => q c4)).symm)))))))
abbrev L_X12_goesWith_3 (d : Nat) (a0 : Nat) (x1 : Int) (x2 : Int) (x3 : Int) (x4 : Int) (I : Nat → Nat → Int) (S : PS) (v : Int) (h1 : PM) : Prop := Ev (d + 1) mX12_goesWith (3, [some (vR (some (22, 0, a0))), some (vI x1), some (vI x2), some (vI x3), some (vI x4), none], [], (I, S)) (.inl (some (vI v)), h1)
theorem w_X12_goesWith_0 {d : Nat} {I : Nat → Nat → Int} {S : PS} {x1 x2 : Int} {b3 : Prop} [Decidable b3] {v : Int} {h1 : PM} (hl0 : LyX12 S)
    (k1 : L_X12_goesWith_3 d 156 x1 x2 (if b3 then (1 : Int) else 0) 0 I S v h1) : Ca (d + 1) mX12_goesWith [vR (some (22, 0, 156)), vI x1, vI x2, vI (if b3 then (1 : Int) else 0)] (I, S) (.inl (some (vI v))) h1 :=
  Ca.of rfl rfl (
  b_X12_goesWith_0  (k1))
theorem w_X12_goesWith_3 {d : Nat} {I : Nat → Nat → Int} {S : PS} {x1 x2 x4 : Int} {b3 : Prop} [Decidable b3] {v : Int} {h1 : PM} (hl0 : LyX12 S)
    (k1 : (x4 < x2) → (p_and (p_shr (I 165 ((15 * x1) + x2).toNat) x4) 1 ≠ 0) → ((if I 173 x4.toNat = I 173 x2.toNat then (1 : Int) else 0) = (if (b3) ∧ (jnM (I 159) x1 x4 x2 = true) then (1 : Int) else 0)) → L_X12_goesWith_3 d 156 x1 x2 (if b3 then (1 : Int) else 0) (x4 + 1) I S v h1)
    (k2 : (x4 < x2) → (p_and (p_shr (I 165 ((15 * x1) + x2).toNat) x4) 1 = 0) → L_X12_goesWith_3 d 156 x1 x2 (if b3 then (1 : Int) else 0) (x4 + 1) I S v h1)
    (r1 : (x2 ≤ x4) → 1 = v)
    (e1 : (x2 ≤ x4) → (I, S) = h1 := by intros; rfl)
    (r2 : (x4 < x2) → (p_and (p_shr (I 165 ((15 * x1) + x2).toNat) x4) 1 ≠ 0) → ((if I 173 x4.toNat = I 173 x2.toNat then (1 : Int) else 0) ≠ (if (b3) ∧ (jnM (I 159) x1 x4 x2 = true) then (1 : Int) else 0)) → 0 = v)
    (e2 : (x4 < x2) → (p_and (p_shr (I 165 ((15 * x1) + x2).toNat) x4) 1 ≠ 0) → ((if I 173 x4.toNat = I 173 x2.toNat then (1 : Int) else 0) ≠ (if (b3) ∧ (jnM (I 159) x1 x4 x2 = true) then (1 : Int) else 0)) → (I, S) = h1 := by intros; rfl)
    (v1 : (x4 < x2) → -2147483648 ≤ 15 * x1 ∧ 15 * x1 ≤ 2147483647 := by intros; first | assumption | omega | (split <;> omega))
    (v2 : (x4 < x2) → -2147483648 ≤ (15 * x1) + x2 ∧ (15 * x1) + x2 ≤ 2147483647 := by intros; first | assumption | omega | (split <;> omega))
    (v3 : (x4 < x2) → 0 ≤ (15 * x1) + x2 ∧ (15 * x1) + x2 < (60 : Nat) := by intros; first | assumption | omega | (split <;> omega))
    (v4 : (x4 < x2) → (p_and (p_shr (I 165 ((15 * x1) + x2).toNat) x4) 1 ≠ 0) → 0 ≤ x4 ∧ x4 < (15 : Nat) := by intros; first | assumption | omega | (split <;> omega))
    (v5 : (x4 < x2) → (p_and (p_shr (I 165 ((15 * x1) + x2).toNat) x4) 1 ≠ 0) → 0 ≤ x2 ∧ x2 < (15 : Nat) := by intros; first | assumption | omega | (split <;> omega))
    (v6 : (x4 < x2) → (p_and (p_shr (I 165 ((15 * x1) + x2).toNat) x4) 1 ≠ 0) → (b3) → 0 ≤ x1 ∧ x1 < 4 := by intros; first | assumption | omega | (split <;> omega))
    (v7 : (x4 < x2) → (p_and (p_shr (I 165 ((15 * x1) + x2).toNat) x4) 1 ≠ 0) → (b3) → 0 ≤ I 159 ((20 * x1) + 10).toNat ∧ I 159 ((20 * x1) + 10).toNat ≤ 4 := by intros; first | assumption | omega | (split <;> omega))
    (v8 : (x4 < x2) → (p_and (p_shr (I 165 ((15 * x1) + x2).toNat) x4) 1 ≠ 0) → ((if I 173 x4.toNat = I 173 x2.toNat then (1 : Int) else 0) = (if (b3) ∧ (jnM (I 159) x1 x4 x2 = true) then (1 : Int) else 0)) → -2147483648 ≤ x4 + 1 ∧ x4 + 1 ≤ 2147483647 := by intros; first | assumption | omega | (split <;> omega))
    (v9 : (x4 < x2) → (p_and (p_shr (I 165 ((15 * x1) + x2).toNat) x4) 1 = 0) → -2147483648 ≤ x4 + 1 ∧ x4 + 1 ≤ 2147483647 := by intros; first | assumption | omega | (split <;> omega)) : L_X12_goesWith_3 d 156 x1 x2 (if b3 then (1 : Int) else 0) x4 I S v h1 :=
  
  b_X12_goesWith_3  (fun (c1 : x2 ≤ x4) => ev_ret2 (r1 c1) (e1 c1) (b_X12_goesWith_87 )) (fun (c2 : x4 < x2) => 
    b_X12_goesWith_9 (ly_X12_25 hl0) (v1 c2) (v2 c2) (v3 c2) (fun (c3 : p_and (p_shr (I 165 ((15 * x1) + x2).toNat) x4) 1 ≠ 0) => 
      have K6 : ∀ us0 : Int, us0 = (if I 173 x4.toNat = I 173 x2.toNat then (1 : Int) else 0) → Ev (d + 1) mX12_goesWith (52, [some (vR (some (22, 0, 156))), some (vI x1), some (vI x2), some (vI (if b3 then (1 : Int) else 0)), some (vI x4), none], [vI us0], (I, S)) (.inl (some (vI v)), h1) := fun us0 e_us0 => by subst e_us0; exact (
        have K11 : ∀ us1 : Int, us1 = (if (b3) ∧ (jnM (I 159) x1 x4 x2 = true) then (1 : Int) else 0) → Ev (d + 1) mX12_goesWith (76, [some (vR (some (22, 0, 156))), some (vI x1), some (vI x2), some (vI (if b3 then (1 : Int) else 0)), some (vI x4), some (vI (if I 173 x4.toNat = I 173 x2.toNat then (1 : Int) else 0))], [vI us1, vI (if I 173 x4.toNat = I 173 x2.toNat then (1 : Int) else 0)], (I, S)) (.inl (some (vI v)), h1) := fun us1 e_us1 => by subst e_us1; exact (
          b_X12_goesWith_76  (fun (c13 : (if I 173 x4.toNat = I 173 x2.toNat then (1 : Int) else 0) = (if (b3) ∧ (jnM (I 159) x1 x4 x2 = true) then (1 : Int) else 0)) => 
            b_X12_goesWith_81 (v8 c2 c3 c13) ((k1 c2 c3 c13))) (fun (c14 : (if I 173 x4.toNat = I 173 x2.toNat then (1 : Int) else 0) ≠ (if (b3) ∧ (jnM (I 159) x1 x4 x2 = true) then (1 : Int) else 0)) => ev_ret2 (r2 c2 c3 c14) (e2 c2 c3 c14) (b_X12_goesWith_79 )))
        
        b_X12_goesWith_52  (fun c8' => have c8 : ¬(b3) := b2f c8'; 
          b_X12_goesWith_75  (K11 0 (if_neg (fun q => c8 q.1)).symm)) (fun c9' => have c9 : b3 := b2t c9'; 
          b_X12_goesWith_60  (c_X12_isJoin hl0 (v6 c2 c3 c9) (v7 c2 c3 c9)) (
          b_X12_goesWith_68  (fun c10' => have c10 : ¬(jnM (I 159) x1 x4 x2 = true) := b2f c10'; 
            b_X12_goesWith_75  (K11 0 (if_neg (fun q => c10 q.2)).symm)) (fun c11' => have c11 : jnM (I 159) x1 x4 x2 = true := b2t c11'; 
            b_X12_goesWith_71  (K11 1 (if_pos ⟨c9, c11⟩).symm)))))
      
      b_X12_goesWith_31 (ly_X12_33 hl0) (v4 c2 c3) (v5 c2 c3) (fun (c5 : I 173 x4.toNat ≠ I 173 x2.toNat) => 
        b_X12_goesWith_51  (K6 0 (if_neg c5).symm)) (fun (c6 : I 173 x4.toNat = I 173 x2.toNat) => 
        b_X12_goesWith_47  (K6 1 (if_pos c6).symm))) (fun (c4 : p_and (p_shr (I 165 ((15 * x1) + x2).toNat) x4) 1 = 0) => 
      b_X12_goesWith_28  (
      b_X12_goesWith_81 (v9 c2 c4) ((k2 c2 c4)))))
abbrev L_X0_isMap_2 (d : Nat) (a0 : Nat) (x1 : Int) (I : Nat → Nat → Int) (S : PS) (v : Int) (h1 : PM) : Prop := Ev (d + 2) mX0_isMap (2, [some (vR (some (11, 0, a0))), some (vI x1), none, none, none], [], (I, S)) (.inl (some (vI v)), h1)
abbrev L_X0_isMap_12 (d : Nat) (a0 : Nat) (x1 : Int) (x2 : Int) (I : Nat → Nat → Int) (S : PS) (v : Int) (h1 : PM) : Prop := Ev (d + 2) mX0_isMap (12, [some (vR (some (11, 0, a0))), some (vI x1), some (vI x2), none, none], [], (I, S)) (.inl (some (vI v)), h1)
theorem w_X0_isMap_0 {d : Nat} {I : Nat → Nat → Int} {S : PS} {a0 : Nat} {v : Int} {h1 : PM} (hl0 : LyX0 S a0)
    (k1 : L_X0_isMap_2 d a0 0 I S v h1) : Ca (d + 2) mX0_isMap [vR (some (11, 0, a0))] (I, S) (.inl (some (vI v))) h1 :=
  Ca.of rfl rfl (
  b_X0_isMap_0  (k1))
theorem w_X0_isMap_2 {d : Nat} {I : Nat → Nat → Int} {S : PS} {a0 : Nat} {x1 : Int} {v : Int} {h1 : PM} (hl0 : LyX0 S a0)
    (k1 : (x1 < I a0 6) → L_X0_isMap_12 d a0 x1 0 I S v h1)
    (r1 : (I a0 6 ≤ x1) → 1 = v)
    (e1 : (I a0 6 ≤ x1) → (I, S) = h1 := by intros; rfl) : L_X0_isMap_2 d a0 x1 I S v h1 :=
  
  b_X0_isMap_2  (fun (c1 : I a0 6 ≤ x1) => ev_ret2 (r1 c1) (e1 c1) (b_X0_isMap_88 )) (fun (c2 : x1 < I a0 6) => 
    b_X0_isMap_10  ((k1 c2)))
theorem w_X0_isMap_12 {d : Nat} {I : Nat → Nat → Int} {S : PS} {a0 : Nat} {x1 x2 : Int} {v : Int} {h1 : PM} (hl0 : LyX0 S a0)
    (k1 : (I (a0 + 4) x1.toNat ≤ x2) → L_X0_isMap_2 d a0 (x1 + 1) I S v h1)
    (k2 : (x2 < I (a0 + 4) x1.toNat) → (I (a0 + 6) ((x1 * 9) + x2).toNat < I a0 6) → ((bhd (I (a0 + 6)) (I (a0 + 4) (I (a0 + 6) ((x1 * 9) + x2).toNat).toNat) (I (a0 + 6) ((x1 * 9) + (if I (a0 + 4) x1.toNat ≤ x2 + 1 then (0 : Int) else x2 + 1)).toNat) (I (a0 + 6) ((x1 * 9) + x2).toNat)) = x1) → L_X0_isMap_12 d a0 x1 (x2 + 1) I S v h1)
    (r1 : (x2 < I (a0 + 4) x1.toNat) → (I a0 6 ≤ I (a0 + 6) ((x1 * 9) + x2).toNat) → 0 = v)
    (e1 : (x2 < I (a0 + 4) x1.toNat) → (I a0 6 ≤ I (a0 + 6) ((x1 * 9) + x2).toNat) → (I, S) = h1 := by intros; rfl)
    (r2 : (x2 < I (a0 + 4) x1.toNat) → (I (a0 + 6) ((x1 * 9) + x2).toNat < I a0 6) → ((bhd (I (a0 + 6)) (I (a0 + 4) (I (a0 + 6) ((x1 * 9) + x2).toNat).toNat) (I (a0 + 6) ((x1 * 9) + (if I (a0 + 4) x1.toNat ≤ x2 + 1 then (0 : Int) else x2 + 1)).toNat) (I (a0 + 6) ((x1 * 9) + x2).toNat)) ≠ x1) → 0 = v)
    (e2 : (x2 < I (a0 + 4) x1.toNat) → (I (a0 + 6) ((x1 * 9) + x2).toNat < I a0 6) → ((bhd (I (a0 + 6)) (I (a0 + 4) (I (a0 + 6) ((x1 * 9) + x2).toNat).toNat) (I (a0 + 6) ((x1 * 9) + (if I (a0 + 4) x1.toNat ≤ x2 + 1 then (0 : Int) else x2 + 1)).toNat) (I (a0 + 6) ((x1 * 9) + x2).toNat)) ≠ x1) → (I, S) = h1 := by intros; rfl)
    (v1 : 0 ≤ x1 ∧ x1 < (12 : Nat) := by intros; first | assumption | omega | (split <;> omega))
    (v2 : (I (a0 + 4) x1.toNat ≤ x2) → -2147483648 ≤ x1 + 1 ∧ x1 + 1 ≤ 2147483647 := by intros; first | assumption | omega | (split <;> omega))
    (v3 : (x2 < I (a0 + 4) x1.toNat) → 0 ≤ x1 ∧ x1 < 12 := by intros; first | assumption | omega | (split <;> omega))
    (v4 : (x2 < I (a0 + 4) x1.toNat) → 0 ≤ x2 ∧ x2 < 9 := by intros; first | assumption | omega | (split <;> omega))
    (v5 : (x2 < I (a0 + 4) x1.toNat) → -2147483648 ≤ x2 + 1 ∧ x2 + 1 ≤ 2147483647 := by intros; first | assumption | omega | (split <;> omega))
    (v6 : (x2 < I (a0 + 4) x1.toNat) → 0 ≤ (if I (a0 + 4) x1.toNat ≤ x2 + 1 then (0 : Int) else x2 + 1) ∧ (if I (a0 + 4) x1.toNat ≤ x2 + 1 then (0 : Int) else x2 + 1) < 9 := by intros; first | assumption | omega | (split <;> omega))
    (v7 : (x2 < I (a0 + 4) x1.toNat) → (I (a0 + 6) ((x1 * 9) + x2).toNat < I a0 6) → 0 ≤ (I (a0 + 6) ((x1 * 9) + x2).toNat) ∧ (I (a0 + 6) ((x1 * 9) + x2).toNat) < 12 := by intros; first | assumption | omega | (split <;> omega))
    (v8 : (x2 < I (a0 + 4) x1.toNat) → (I (a0 + 6) ((x1 * 9) + x2).toNat < I a0 6) → 0 ≤ I (a0 + 4) (I (a0 + 6) ((x1 * 9) + x2).toNat).toNat ∧ I (a0 + 4) (I (a0 + 6) ((x1 * 9) + x2).toNat).toNat ≤ 9 := by intros; first | assumption | omega | (split <;> omega)) : L_X0_isMap_12 d a0 x1 x2 I S v h1 :=
  
  b_X0_isMap_12 (ly_X0_3 hl0) v1 (fun (c1 : I (a0 + 4) x1.toNat ≤ x2) => 
    b_X0_isMap_82 (v2 c1) ((k1 c1))) (fun (c2 : x2 < I (a0 + 4) x1.toNat) => 
    b_X0_isMap_22  (c_X0_neighbourAt hl0 (v3 c2) (v4 c2)) (
    have K4 : ∀ us2 : Int, us2 = (if I (a0 + 4) x1.toNat ≤ x2 + 1 then (0 : Int) else x2 + 1) → Ev (d + 2) mX0_isMap (50, [some (vR (some (11, 0, a0))), some (vI x1), some (vI x2), some (vI (I (a0 + 6) ((x1 * 9) + x2).toNat)), none], [vI us2, vI x1, vR (some (11, 0, a0))], (I, S)) (.inl (some (vI v)), h1) := fun us2 e_us2 => by subst e_us2; exact (
      b_X0_isMap_50  (c_X0_neighbourAt hl0 (v3 c2) (v6 c2)) (
      b_X0_isMap_53  (fun (c6 : I a0 6 ≤ I (a0 + 6) ((x1 * 9) + x2).toNat) => ev_ret2 (r1 c2 c6) (e1 c2 c6) (b_X0_isMap_74 )) (fun (c7 : I (a0 + 6) ((x1 * 9) + x2).toNat < I a0 6) => 
        b_X0_isMap_63  (c_X0_behindOf hl0 (v7 c2 c7) (v8 c2 c7)) (
        b_X0_isMap_70  (fun (c8 : (bhd (I (a0 + 6)) (I (a0 + 4) (I (a0 + 6) ((x1 * 9) + x2).toNat).toNat) (I (a0 + 6) ((x1 * 9) + (if I (a0 + 4) x1.toNat ≤ x2 + 1 then (0 : Int) else x2 + 1)).toNat) (I (a0 + 6) ((x1 * 9) + x2).toNat)) = x1) => 
          b_X0_isMap_76 (v5 c2) ((k2 c2 c7 c8))) (fun (c9 : (bhd (I (a0 + 6)) (I (a0 + 4) (I (a0 + 6) ((x1 * 9) + x2).toNat).toNat) (I (a0 + 6) ((x1 * 9) + (if I (a0 + 4) x1.toNat ≤ x2 + 1 then (0 : Int) else x2 + 1)).toNat) (I (a0 + 6) ((x1 * 9) + x2).toNat)) ≠ x1) => ev_ret2 (r2 c2 c7 c9) (e2 c2 c7 c9) (b_X0_isMap_74 ))))))
    
    b_X0_isMap_28 (v5 c2) (ly_X0_3 hl0) v1 (fun (c3 : I (a0 + 4) x1.toNat ≤ x2 + 1) => 
      b_X0_isMap_49  (K4 0 ((if_pos c3).symm))) (fun (c4 : x2 + 1 < I (a0 + 4) x1.toNat) => 
      b_X0_isMap_43 (v5 c2) (K4 (x2 + 1) ((if_neg (Int.not_le.mpr c4)).symm)))))
abbrev L_X2_chainOf_56 (d : Nat) (a0 : Nat) (a1 : Nat) (x2 : Int) (x3 : Int) (x4 : Int) (x5 : Int) (x6 : Int) (x7 : Int) (x8 : Int) (I : Nat → Nat → Int) (S : PS) (v : Int) (h1 : PM) : Prop := Ev (d + 1) mX2_chainOf (56, [some (vR (some (13, 0, a0))), some (vR (some (11, 0, a1))), some (vI x2), some (vI x3), some (vI x4), some (vI x5), some (vI x6), some (vI x7), some (vI x8), none, none], [], (I, S)) (.inl (some (vI v)), h1)
abbrev L_X2_chainOf_76 (d : Nat) (a0 : Nat) (a1 : Nat) (x2 : Int) (x3 : Int) (x4 : Int) (x5 : Int) (x6 : Int) (x7 : Int) (x8 : Int) (x9 : Int) (x10 : Int) (I : Nat → Nat → Int) (S : PS) (v : Int) (h1 : PM) : Prop := Ev (d + 1) mX2_chainOf (76, [some (vR (some (13, 0, a0))), some (vR (some (11, 0, a1))), some (vI x2), some (vI x3), some (vI x4), some (vI x5), some (vI x6), some (vI x7), some (vI x8), some (vI x9), some (vI x10)], [], (I, S)) (.inl (some (vI v)), h1)
theorem w_X2_chainOf_0 {d : Nat} {I : Nat → Nat → Int} {S : PS} {a0 a1 : Nat} {x2 x3 : Int} {v : Int} {h1 : PM} (hl0 : LyX2 S a0) (hl1 : LyX0 S a1)
    (k1 : ((colO (I (a0 + 1)) x2) ≠ (-1)) → ((colO (I (a0 + 1)) x2) ≠ x3) → ((0 ≤ x3) ∧ (x3 < 4)) → L_X2_chainOf_56 d a0 a1 x2 x3 (colO (I (a0 + 1)) x2) (p_or (I (a0 + 1) (colO (I (a0 + 1)) x2).toNat) (I (a0 + 1) x3.toNat)) (p_shl 1 x2) (p_shl 1 x2) 0 I S v h1)
    (r1 : ((colO (I (a0 + 1)) x2) = (-1)) → 0 = v)
    (e1 : ((colO (I (a0 + 1)) x2) = (-1)) → (I, S) = h1 := by intros; rfl)
    (r2 : ((colO (I (a0 + 1)) x2) ≠ (-1)) → ((colO (I (a0 + 1)) x2) = x3) → 0 = v)
    (e2 : ((colO (I (a0 + 1)) x2) ≠ (-1)) → ((colO (I (a0 + 1)) x2) = x3) → (I, S) = h1 := by intros; rfl)
    (r3 : ((colO (I (a0 + 1)) x2) ≠ (-1)) → ((colO (I (a0 + 1)) x2) ≠ x3) → (¬((0 ≤ x3) ∧ (x3 < 4))) → 0 = v)
    (e3 : ((colO (I (a0 + 1)) x2) ≠ (-1)) → ((colO (I (a0 + 1)) x2) ≠ x3) → (¬((0 ≤ x3) ∧ (x3 < 4))) → (I, S) = h1 := by intros; rfl)
    (v1 : ((colO (I (a0 + 1)) x2) ≠ (-1)) → ((colO (I (a0 + 1)) x2) ≠ x3) → ((0 ≤ x3) ∧ (x3 < 4)) → 0 ≤ (colO (I (a0 + 1)) x2) ∧ (colO (I (a0 + 1)) x2) < (4 : Nat) := by intros; first | assumption | omega | (split <;> omega))
    (v2 : ((colO (I (a0 + 1)) x2) ≠ (-1)) → ((colO (I (a0 + 1)) x2) ≠ x3) → ((0 ≤ x3) ∧ (x3 < 4)) → 0 ≤ x3 ∧ x3 < (4 : Nat) := by intros; first | assumption | omega | (split <;> omega)) : Ca (d + 1) mX2_chainOf [vR (some (13, 0, a0)), vR (some (11, 0, a1)), vI x2, vI x3] (I, S) (.inl (some (vI v))) h1 :=
  Ca.of rfl rfl (
  b_X2_chainOf_0  (c_X2_colourAt hl0) (
  b_X2_chainOf_5  (fun (c1 : (colO (I (a0 + 1)) x2) = (-1)) => ev_ret2 (r1 c1) (e1 c1) (b_X2_chainOf_26 )) (fun (c2 : (colO (I (a0 + 1)) x2) ≠ (-1)) => 
    b_X2_chainOf_13  (fun (c3 : (colO (I (a0 + 1)) x2) = x3) => ev_ret2 (r2 c2 c3) (e2 c2 c3) (b_X2_chainOf_26 )) (fun (c4 : (colO (I (a0 + 1)) x2) ≠ x3) => 
      b_X2_chainOf_19  c_X11_isColour (
      b_X2_chainOf_23  (fun c5' => have c5 : (0 ≤ x3) ∧ (x3 < 4) := b2t c5'; 
        b_X2_chainOf_28 (ly_X2_0 hl0) (v1 c2 c4 c5) (v2 c2 c4 c5) ((k1 c2 c4 c5))) (fun c6' => have c6 : ¬((0 ≤ x3) ∧ (x3 < 4)) := b2f c6'; ev_ret2 (r3 c2 c4 c6) (e3 c2 c4 c6) (b_X2_chainOf_26 )))))))
theorem w_X2_chainOf_56 {d : Nat} {I : Nat → Nat → Int} {S : PS} {a0 a1 : Nat} {x2 x3 x4 x5 x6 x7 x8 : Int} {v : Int} {h1 : PM} (hl0 : LyX2 S a0) (hl1 : LyX0 S a1)
    (k1 : (x8 < I a1 6) → (x7 ≠ 0) → L_X2_chainOf_76 d a0 a1 x2 x3 x4 x5 x6 x7 x8 0 0 I S v h1)
    (r1 : (I a1 6 ≤ x8) → x6 = v)
    (e1 : (I a1 6 ≤ x8) → (I, S) = h1 := by intros; rfl)
    (r2 : (x8 < I a1 6) → (x7 = 0) → x6 = v)
    (e2 : (x8 < I a1 6) → (x7 = 0) → (I, S) = h1 := by intros; rfl) : L_X2_chainOf_56 d a0 a1 x2 x3 x4 x5 x6 x7 x8 I S v h1 :=
  
  b_X2_chainOf_56  (fun (c1 : I a1 6 ≤ x8) => ev_ret2 (r1 c1) (e1 c1) (b_X2_chainOf_138 )) (fun (c2 : x8 < I a1 6) => 
    b_X2_chainOf_65  (fun (c3 : x7 = 0) => ev_ret2 (r2 c2 c3) (e2 c2 c3) (b_X2_chainOf_138 )) (fun (c4 : x7 ≠ 0) => 
      b_X2_chainOf_70  ((k1 c2 c4))))
theorem w_X2_chainOf_76 {d : Nat} {I : Nat → Nat → Int} {S : PS} {a0 a1 : Nat} {x2 x3 x4 x5 x6 x7 x8 x9 x10 : Int} {v : Int} {h1 : PM} (hl0 : LyX2 S a0) (hl1 : LyX0 S a1)
    (k1 : (I a1 6 ≤ x10) → L_X2_chainOf_56 d a0 a1 x2 x3 x4 x5 (p_or x6 (p_and (p_and x9 x5) (p_xor x6 (-1)))) (p_and (p_and x9 x5) (p_xor x6 (-1))) (x8 + 1) I S v h1)
    (k2 : (x10 < I a1 6) → L_X2_chainOf_76 d a0 a1 x2 x3 x4 x5 x6 x7 x8 (if p_and (p_shr x7 x10) 1 = 0 then (x9 : Int) else p_or x9 (I (a1 + 5) x10.toNat)) (x10 + 1) I S v h1)
    (v1 : (I a1 6 ≤ x10) → -2147483648 ≤ x8 + 1 ∧ x8 + 1 ≤ 2147483647 := by intros; first | assumption | omega | (split <;> omega))
    (v2 : (x10 < I a1 6) → (p_and (p_shr x7 x10) 1 ≠ 0) → 0 ≤ x10 ∧ x10 < (12 : Nat) := by intros; first | assumption | omega | (split <;> omega))
    (v3 : (x10 < I a1 6) → -2147483648 ≤ x10 + 1 ∧ x10 + 1 ≤ 2147483647 := by intros; first | assumption | omega | (split <;> omega)) : L_X2_chainOf_76 d a0 a1 x2 x3 x4 x5 x6 x7 x8 x9 x10 I S v h1 :=
  
  b_X2_chainOf_76  (fun (c1 : I a1 6 ≤ x10) => 
    b_X2_chainOf_113 (v1 c1) ((k1 c1))) (fun (c2 : x10 < I a1 6) => 
    have K4 : ∀ u9 : Int, u9 = (if p_and (p_shr x7 x10) 1 = 0 then (x9 : Int) else p_or x9 (I (a1 + 5) x10.toNat)) → Ev (d + 1) mX2_chainOf (107, [some (vR (some (13, 0, a0))), some (vR (some (11, 0, a1))), some (vI x2), some (vI x3), some (vI x4), some (vI x5), some (vI x6), some (vI x7), some (vI x8), some (vI u9), some (vI x10)], [], (I, S)) (.inl (some (vI v)), h1) := fun u9 e_u9 => by subst e_u9; exact (
      b_X2_chainOf_107 (v3 c2) ((k2 c2)))
    
    b_X2_chainOf_85  (fun (c3 : p_and (p_shr x7 x10) 1 = 0) => K4 x9 ((if_pos c3).symm)) (fun (c4 : p_and (p_shr x7 x10) 1 ≠ 0) => 
      b_X2_chainOf_95 (ly_X0_4 hl1) (v2 c2 c4) (K4 (p_or x9 (I (a1 + 5) x10.toNat)) ((if_neg c4).symm))))
abbrev L_X10_advance_0 (d : Nat) (a0 : Nat) (I : Nat → Nat → Int) (S : PS) (h1 : PM) : Prop := Ev (d + 1) mX10_advance (0, [some (vR (some (20, 0, a0)))], [], (I, S)) (.inl none, h1)
abbrev L_X10_advance_102 (d : Nat) (a0 : Nat) (I : Nat → Nat → Int) (S : PS) (h1 : PM) : Prop := Ev (d + 1) mX10_advance (102, [some (vR (some (20, 0, a0)))], [], (I, S)) (.inl none, h1)
theorem w_X10_advance_0 {d : Nat} {I : Nat → Nat → Int} {S : PS} {h1 : PM} (hl0 : LyX10 S)
    (k1 : (I 32 1 ≤ I 32 2) → ((f_X10_kindAt (up2 (up2 I 32 4 (I 32 2)) 32 5 0) (I 32 2)) = 1) → L_X10_advance_102 d 32 (up2 (up2 (up2 I 32 4 (I 32 2)) 32 5 0) 32 3 (f_X10_kindAt (up2 (up2 I 32 4 (I 32 2)) 32 5 0) (I 32 2))) S h1)
    (k2 : (I 32 1 ≤ I 32 2) → ((f_X10_kindAt (up2 (up2 I 32 4 (I 32 2)) 32 5 0) (I 32 2)) ≠ 1) → ((f_X10_kindAt (up2 (up2 I 32 4 (I 32 2)) 32 5 0) (I 32 2)) = 2) → L_X10_advance_102 d 32 (up2 (up2 (up2 I 32 4 (I 32 2)) 32 5 0) 32 3 (f_X10_kindAt (up2 (up2 I 32 4 (I 32 2)) 32 5 0) (I 32 2))) S h1)
    (k3 : (I 32 2 < I 32 1) → ((f_X10_kindAt I (I 32 2)) ≠ 4) → ((f_X10_kindAt (up2 (up2 I 32 4 (I 32 2)) 32 5 0) (I 32 2)) = 1) → L_X10_advance_102 d 32 (up2 (up2 (up2 I 32 4 (I 32 2)) 32 5 0) 32 3 (f_X10_kindAt (up2 (up2 I 32 4 (I 32 2)) 32 5 0) (I 32 2))) S h1)
    (k4 : (I 32 2 < I 32 1) → ((f_X10_kindAt I (I 32 2)) ≠ 4) → ((f_X10_kindAt (up2 (up2 I 32 4 (I 32 2)) 32 5 0) (I 32 2)) ≠ 1) → ((f_X10_kindAt (up2 (up2 I 32 4 (I 32 2)) 32 5 0) (I 32 2)) = 2) → L_X10_advance_102 d 32 (up2 (up2 (up2 I 32 4 (I 32 2)) 32 5 0) 32 3 (f_X10_kindAt (up2 (up2 I 32 4 (I 32 2)) 32 5 0) (I 32 2))) S h1)
    (k5 : (I 32 2 < I 32 1) → ((f_X10_kindAt I (I 32 2)) = 4) → L_X10_advance_0 d 32 (up2 I 32 2 (I 32 2 + 1)) S h1)
    (e1 : (I 32 1 ≤ I 32 2) → ((f_X10_kindAt (up2 (up2 I 32 4 (I 32 2)) 32 5 0) (I 32 2)) ≠ 1) → ((f_X10_kindAt (up2 (up2 I 32 4 (I 32 2)) 32 5 0) (I 32 2)) ≠ 2) → ((up2 (up2 (up2 (up2 I 32 4 (I 32 2)) 32 5 0) 32 3 (f_X10_kindAt (up2 (up2 I 32 4 (I 32 2)) 32 5 0) (I 32 2))) 32 2 (if (f_X10_kindAt (up2 (up2 I 32 4 (I 32 2)) 32 5 0) (I 32 2)) ≠ 0 then (I 32 2 + 1 : Int) else I 32 2)), S) = h1 := by intros; rfl)
    (e2 : (I 32 2 < I 32 1) → ((f_X10_kindAt I (I 32 2)) ≠ 4) → ((f_X10_kindAt (up2 (up2 I 32 4 (I 32 2)) 32 5 0) (I 32 2)) ≠ 1) → ((f_X10_kindAt (up2 (up2 I 32 4 (I 32 2)) 32 5 0) (I 32 2)) ≠ 2) → ((up2 (up2 (up2 (up2 I 32 4 (I 32 2)) 32 5 0) 32 3 (f_X10_kindAt (up2 (up2 I 32 4 (I 32 2)) 32 5 0) (I 32 2))) 32 2 (if (f_X10_kindAt (up2 (up2 I 32 4 (I 32 2)) 32 5 0) (I 32 2)) ≠ 0 then (I 32 2 + 1 : Int) else I 32 2)), S) = h1 := by intros; rfl)
    (v1 : (I 32 1 ≤ I 32 2) → 0 ≤ (I 32 2) ∧ I 32 1 ≤ 700 := by intros; first | assumption | omega | (split <;> omega))
    (v2 : (I 32 1 ≤ I 32 2) → ((f_X10_kindAt (up2 (up2 I 32 4 (I 32 2)) 32 5 0) (I 32 2)) ≠ 1) → ((f_X10_kindAt (up2 (up2 I 32 4 (I 32 2)) 32 5 0) (I 32 2)) ≠ 2) → ((f_X10_kindAt (up2 (up2 I 32 4 (I 32 2)) 32 5 0) (I 32 2)) ≠ 0) → -2147483648 ≤ I 32 2 + 1 ∧ I 32 2 + 1 ≤ 2147483647 := by intros; first | assumption | omega | (split <;> omega))
    (v3 : (I 32 2 < I 32 1) → 0 ≤ (I 32 2) ∧ I 32 1 ≤ 700 := by intros; first | assumption | omega | (split <;> omega))
    (v4 : (I 32 2 < I 32 1) → ((f_X10_kindAt I (I 32 2)) ≠ 4) → ((f_X10_kindAt (up2 (up2 I 32 4 (I 32 2)) 32 5 0) (I 32 2)) ≠ 1) → ((f_X10_kindAt (up2 (up2 I 32 4 (I 32 2)) 32 5 0) (I 32 2)) ≠ 2) → ((f_X10_kindAt (up2 (up2 I 32 4 (I 32 2)) 32 5 0) (I 32 2)) ≠ 0) → -2147483648 ≤ I 32 2 + 1 ∧ I 32 2 + 1 ≤ 2147483647 := by intros; first | assumption | omega | (split <;> omega))
    (v5 : (I 32 2 < I 32 1) → ((f_X10_kindAt I (I 32 2)) = 4) → -2147483648 ≤ I 32 2 + 1 ∧ I 32 2 + 1 ≤ 2147483647 := by intros; first | assumption | omega | (split <;> omega)) : L_X10_advance_0 d 32 I S h1 :=
  
  b_X10_advance_0  (fun (c1 : I 32 1 ≤ I 32 2) => 
    b_X10_advance_36  (c_X10_kindAt hl0 (v1 c1)) (
    b_X10_advance_58  (fun (c3 : (f_X10_kindAt (up2 (up2 I 32 4 (I 32 2)) 32 5 0) (I 32 2)) = 1) => (k1 c1 c3)) (fun (c4 : (f_X10_kindAt (up2 (up2 I 32 4 (I 32 2)) 32 5 0) (I 32 2)) ≠ 1) => 
      b_X10_advance_69  (fun (c5 : (f_X10_kindAt (up2 (up2 I 32 4 (I 32 2)) 32 5 0) (I 32 2)) = 2) => (k2 c1 c4 c5)) (fun (c6 : (f_X10_kindAt (up2 (up2 I 32 4 (I 32 2)) 32 5 0) (I 32 2)) ≠ 2) => 
        have K8 : ∀ us1 : Int, us1 = (if (f_X10_kindAt (up2 (up2 I 32 4 (I 32 2)) 32 5 0) (I 32 2)) ≠ 0 then (I 32 2 + 1 : Int) else I 32 2) → Ev (d + 1) mX10_advance (98, [some (vR (some (20, 0, 32)))], [vI us1, vR (some (20, 0, 32))], ((up2 (up2 (up2 I 32 4 (I 32 2)) 32 5 0) 32 3 (f_X10_kindAt (up2 (up2 I 32 4 (I 32 2)) 32 5 0) (I 32 2))), S)) (.inl none, h1) := fun us1 e_us1 => by subst e_us1; exact (ev_retV (e1 c1 c4 c6) (b_X10_advance_98 ))
        
        b_X10_advance_77  (fun (c7 : (f_X10_kindAt (up2 (up2 I 32 4 (I 32 2)) 32 5 0) (I 32 2)) ≠ 0) => 
          b_X10_advance_92 (v2 c1 c4 c6 c7) (K8 (I 32 2 + 1) ((if_pos c7).symm))) (fun (c8 : (f_X10_kindAt (up2 (up2 I 32 4 (I 32 2)) 32 5 0) (I 32 2)) = 0) => 
          b_X10_advance_85  (K8 (I 32 2) ((if_neg (fun q => q c8)).symm))))))) (fun (c2 : I 32 2 < I 32 1) => 
    b_X10_advance_11  (c_X10_kindAt hl0 (v3 c2)) (
    b_X10_advance_19  (fun (c10 : (f_X10_kindAt I (I 32 2)) ≠ 4) => 
      b_X10_advance_36  (c_X10_kindAt hl0 (v3 c2)) (
      b_X10_advance_58  (fun (c12 : (f_X10_kindAt (up2 (up2 I 32 4 (I 32 2)) 32 5 0) (I 32 2)) = 1) => (k3 c2 c10 c12)) (fun (c13 : (f_X10_kindAt (up2 (up2 I 32 4 (I 32 2)) 32 5 0) (I 32 2)) ≠ 1) => 
        b_X10_advance_69  (fun (c14 : (f_X10_kindAt (up2 (up2 I 32 4 (I 32 2)) 32 5 0) (I 32 2)) = 2) => (k4 c2 c10 c13 c14)) (fun (c15 : (f_X10_kindAt (up2 (up2 I 32 4 (I 32 2)) 32 5 0) (I 32 2)) ≠ 2) => 
          have K17 : ∀ us1 : Int, us1 = (if (f_X10_kindAt (up2 (up2 I 32 4 (I 32 2)) 32 5 0) (I 32 2)) ≠ 0 then (I 32 2 + 1 : Int) else I 32 2) → Ev (d + 1) mX10_advance (98, [some (vR (some (20, 0, 32)))], [vI us1, vR (some (20, 0, 32))], ((up2 (up2 (up2 I 32 4 (I 32 2)) 32 5 0) 32 3 (f_X10_kindAt (up2 (up2 I 32 4 (I 32 2)) 32 5 0) (I 32 2))), S)) (.inl none, h1) := fun us1 e_us1 => by subst e_us1; exact (ev_retV (e2 c2 c10 c13 c15) (b_X10_advance_98 ))
          
          b_X10_advance_77  (fun (c16 : (f_X10_kindAt (up2 (up2 I 32 4 (I 32 2)) 32 5 0) (I 32 2)) ≠ 0) => 
            b_X10_advance_92 (v4 c2 c10 c13 c15 c16) (K17 (I 32 2 + 1) ((if_pos c16).symm))) (fun (c17 : (f_X10_kindAt (up2 (up2 I 32 4 (I 32 2)) 32 5 0) (I 32 2)) = 0) => 
            b_X10_advance_85  (K17 (I 32 2) ((if_neg (fun q => q c17)).symm))))))) (fun (c11 : (f_X10_kindAt I (I 32 2)) = 4) => 
      b_X10_advance_23 (v5 c2 c11) ((k5 c2 c11)))))
theorem w_X10_advance_102 {d : Nat} {I : Nat → Nat → Int} {S : PS} {h1 : PM} (hl0 : LyX10 S)
    (k1 : (I 32 2 < I 32 1) → ((f_X10_kindAt I (I 32 2)) = I 32 3) → L_X10_advance_102 d 32 (up2 (up2 I 32 5 (if I 32 3 ≠ 2 then (0 : Int) else p_min ((((I 32 5) * 10) + (I 33 (I 32 2).toNat)) - 48) 10000)) 32 2 (I 32 2 + 1)) S h1)
    (e1 : (I 32 1 ≤ I 32 2) → (I 32 3 ≠ 2) → (I, S) = h1 := by intros; rfl)
    (e2 : (I 32 1 ≤ I 32 2) → (I 32 3 = 2) → (I 32 2 - (I 32 4) ≤ 4) → (I, S) = h1 := by intros; rfl)
    (e3 : (I 32 1 ≤ I 32 2) → (I 32 3 = 2) → (4 < I 32 2 - (I 32 4)) → ((up2 I 32 5 10000), S) = h1 := by intros; rfl)
    (e4 : (I 32 2 < I 32 1) → ((f_X10_kindAt I (I 32 2)) ≠ I 32 3) → (I 32 3 ≠ 2) → (I, S) = h1 := by intros; rfl)
    (e5 : (I 32 2 < I 32 1) → ((f_X10_kindAt I (I 32 2)) ≠ I 32 3) → (I 32 3 = 2) → (I 32 2 - (I 32 4) ≤ 4) → (I, S) = h1 := by intros; rfl)
    (e6 : (I 32 2 < I 32 1) → ((f_X10_kindAt I (I 32 2)) ≠ I 32 3) → (I 32 3 = 2) → (4 < I 32 2 - (I 32 4)) → ((up2 I 32 5 10000), S) = h1 := by intros; rfl)
    (v1 : (I 32 1 ≤ I 32 2) → (I 32 3 = 2) → -2147483648 ≤ I 32 2 - (I 32 4) ∧ I 32 2 - (I 32 4) ≤ 2147483647 := by intros; first | assumption | omega | (split <;> omega))
    (v2 : (I 32 2 < I 32 1) → 0 ≤ (I 32 2) ∧ I 32 1 ≤ 700 := by intros; first | assumption | omega | (split <;> omega))
    (v3 : (I 32 2 < I 32 1) → ((f_X10_kindAt I (I 32 2)) ≠ I 32 3) → (I 32 3 = 2) → -2147483648 ≤ I 32 2 - (I 32 4) ∧ I 32 2 - (I 32 4) ≤ 2147483647 := by intros; first | assumption | omega | (split <;> omega))
    (v4 : (I 32 2 < I 32 1) → ((f_X10_kindAt I (I 32 2)) = I 32 3) → (I 32 3 = 2) → -2147483648 ≤ (I 32 5) * 10 ∧ (I 32 5) * 10 ≤ 2147483647 := by intros; first | assumption | omega | (split <;> omega))
    (v5 : (I 32 2 < I 32 1) → ((f_X10_kindAt I (I 32 2)) = I 32 3) → (I 32 3 = 2) → 0 ≤ I 32 2 ∧ I 32 2 < (700 : Nat) := by intros; first | assumption | omega | (split <;> omega))
    (v6 : (I 32 2 < I 32 1) → ((f_X10_kindAt I (I 32 2)) = I 32 3) → (I 32 3 = 2) → -2147483648 ≤ ((I 32 5) * 10) + (I 33 (I 32 2).toNat) ∧ ((I 32 5) * 10) + (I 33 (I 32 2).toNat) ≤ 2147483647 := by intros; first | assumption | omega | (split <;> omega))
    (v7 : (I 32 2 < I 32 1) → ((f_X10_kindAt I (I 32 2)) = I 32 3) → (I 32 3 = 2) → -2147483648 ≤ (((I 32 5) * 10) + (I 33 (I 32 2).toNat)) - 48 ∧ (((I 32 5) * 10) + (I 33 (I 32 2).toNat)) - 48 ≤ 2147483647 := by intros; first | assumption | omega | (split <;> omega))
    (v8 : (I 32 2 < I 32 1) → ((f_X10_kindAt I (I 32 2)) = I 32 3) → -2147483648 ≤ I 32 2 + 1 ∧ I 32 2 + 1 ≤ 2147483647 := by intros; first | assumption | omega | (split <;> omega)) : L_X10_advance_102 d 32 I S h1 :=
  
  b_X10_advance_102  (fun (c1 : I 32 1 ≤ I 32 2) => 
    b_X10_advance_183  (fun (c3 : I 32 3 ≠ 2) => ev_retV (e1 c1 c3) (b_X10_advance_211 )) (fun (c4 : I 32 3 = 2) => 
      b_X10_advance_191 (v1 c1 c4) (fun (c5 : I 32 2 - (I 32 4) ≤ 4) => ev_retV (e2 c1 c4 c5) (b_X10_advance_211 )) (fun (c6 : 4 < I 32 2 - (I 32 4)) => 
        b_X10_advance_204  (ev_retV (e3 c1 c4 c6) (b_X10_advance_211 ))))) (fun (c2 : I 32 2 < I 32 1) => 
    b_X10_advance_113  (c_X10_kindAt hl0 (v2 c2)) (
    b_X10_advance_121  (fun (c7 : (f_X10_kindAt I (I 32 2)) ≠ I 32 3) => 
      b_X10_advance_183  (fun (c9 : I 32 3 ≠ 2) => ev_retV (e4 c2 c7 c9) (b_X10_advance_211 )) (fun (c10 : I 32 3 = 2) => 
        b_X10_advance_191 (v3 c2 c7 c10) (fun (c11 : I 32 2 - (I 32 4) ≤ 4) => ev_retV (e5 c2 c7 c10 c11) (b_X10_advance_211 )) (fun (c12 : 4 < I 32 2 - (I 32 4)) => 
          b_X10_advance_204  (ev_retV (e6 c2 c7 c10 c12) (b_X10_advance_211 ))))) (fun (c8 : (f_X10_kindAt I (I 32 2)) = I 32 3) => 
      have K14 : ∀ us1 : Int, us1 = (if I 32 3 ≠ 2 then (0 : Int) else p_min ((((I 32 5) * 10) + (I 33 (I 32 2).toNat)) - 48) 10000) → Ev (d + 1) mX10_advance (167, [some (vR (some (20, 0, 32)))], [vI us1, vR (some (20, 0, 32))], (I, S)) (.inl none, h1) := fun us1 e_us1 => by subst e_us1; exact (
        b_X10_advance_167 (v8 c2 c8) ((k1 c2 c8)))
      
      b_X10_advance_128  (fun (c13 : I 32 3 ≠ 2) => 
        b_X10_advance_166  (K14 0 ((if_pos c13).symm))) (fun (c14 : I 32 3 = 2) => 
        b_X10_advance_137 (v4 c2 c8 c14) (ly_X10_0 hl0) (v5 c2 c8 c14) (v6 c2 c8 c14) (v7 c2 c8 c14) (K14 (p_min ((((I 32 5) * 10) + (I 33 (I 32 2).toNat)) - 48) 10000) ((if_neg (fun q => q c14)).symm))))))
theorem w_X10_advance_in {d : Nat} {I : Nat → Nat → Int} {S : PS} {h1 : PM} (k : L_X10_advance_0 d 32 I S h1) : Ca (d + 1) mX10_advance [vR (some (20, 0, 32))] (I, S) (.inl none) h1 := Ca.of rfl rfl k
end
