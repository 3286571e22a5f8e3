noncomputable section
abbrev L_X7_sent_6 (d : Nat) (a0 : Nat) (x1 : Int) (x2 : Int) (x3 : Int) (x4 : Int) (n5 : Nat) (a5 : Nat) (x6 : Int) (x7 : Int) (I : Nat → Nat → Int) (S : PS) (v : Int) (h1 : PM) : Prop := Ev (d + 2) mX7_sent (6, [some (vR (some (17, 0, a0))), some (vI x1), some (vI x2), some (vI x3), some (vI x4), some (vR (some (0, n5, a5))), some (vI x6), some (vI x7)], [], (I, S)) (.inl (some (vI v)), h1)
theorem w_X7_sent_0 {d : Nat} {I : Nat → Nat → Int} {S : PS} {a0 n5 a5 : Nat} {x1 x2 x3 x4 : Int} {v : Int} {h1 : PM} (hl0 : LyX7 S a0)
    (k1 : L_X7_sent_6 d a0 x1 x2 x3 x4 n5 a5 0 0 I S v h1) : Ca (d + 2) mX7_sent [vR (some (17, 0, a0)), vI x1, vI x2, vI x3, vI x4, vR (some (0, n5, a5))] (I, S) (.inl (some (vI v))) h1 :=
  Ca.of rfl rfl (
  b_X7_sent_0  (k1))
theorem w_X7_sent_6 {d : Nat} {I : Nat → Nat → Int} {S : PS} {a0 n5 a5 : Nat} {x1 x2 x3 x4 x6 x7 : Int} {v : Int} {h1 : PM} (hl0 : LyX7 S a0)
    (k1 : (x7 < I a0 0) → L_X7_sent_6 d a0 x1 x2 x3 x4 n5 a5 (if ¬(q_X7_applies I a0 x7 x1 x2 x3 x4 = true) then (x6 : Int) else x6 + (I a5 x7.toNat)) (x7 + 1) I S v h1)
    (r1 : (I a0 0 ≤ x7) → x6 = v)
    (e1 : (I a0 0 ≤ x7) → (I, S) = h1 := by intros; rfl)
    (v1 : (x7 < I a0 0) → 0 ≤ x7 ∧ x7 < 6 := by intros; first | assumption | omega | (split <;> omega))
    (v2 : (x7 < I a0 0) → (q_X7_applies I a0 x7 x1 x2 x3 x4 = true) → 0 ≤ x7 ∧ x7 < (n5 : Nat) := by intros; first | assumption | omega | (split <;> omega))
    (v3 : (x7 < I a0 0) → (q_X7_applies I a0 x7 x1 x2 x3 x4 = true) → -2147483648 ≤ x6 + (I a5 x7.toNat) ∧ x6 + (I a5 x7.toNat) ≤ 2147483647 := by intros; first | assumption | omega | (split <;> omega))
    (v4 : (x7 < I a0 0) → -2147483648 ≤ x7 + 1 ∧ x7 + 1 ≤ 2147483647 := by intros; first | assumption | omega | (split <;> omega)) : L_X7_sent_6 d a0 x1 x2 x3 x4 n5 a5 x6 x7 I S v h1 :=
  
  b_X7_sent_6  (fun (c1 : I a0 0 ≤ x7) => ev_ret2 (r1 c1) (e1 c1) (b_X7_sent_45 )) (fun (c2 : x7 < I a0 0) => 
    b_X7_sent_15  (c_X7_applies hl0 (v1 c2)) (
    have K4 : ∀ u6 : Int, u6 = (if ¬(q_X7_applies I a0 x7 x1 x2 x3 x4 = true) then (x6 : Int) else x6 + (I a5 x7.toNat)) → Ev (d + 2) mX7_sent (39, [some (vR (some (17, 0, a0))), some (vI x1), some (vI x2), some (vI x3), some (vI x4), some (vR (some (0, n5, a5))), some (vI u6), some (vI x7)], [], (I, S)) (.inl (some (vI v)), h1) := fun u6 e_u6 => by subst e_u6; exact (
      b_X7_sent_39 (v4 c2) ((k1 c2)))
    
    b_X7_sent_26  (fun c3' => have c3 : ¬(q_X7_applies I a0 x7 x1 x2 x3 x4 = true) := b2f c3'; K4 x6 ((if_pos c3).symm)) (fun c4' => have c4 : q_X7_applies I a0 x7 x1 x2 x3 x4 = true := b2t c4'; 
      b_X7_sent_29 (v2 c2 c4) (v3 c2 c4) (K4 (x6 + (I a5 x7.toNat)) ((if_neg (fun q => q c4)).symm)))))
abbrev L_X7_net_6 (d : Nat) (a0 : Nat) (x1 : Int) (x2 : Int) (n3 : Nat) (a3 : Nat) (x4 : Int) (x5 : Int) (I : Nat → Nat → Int) (S : PS) (v : Int) (h1 : PM) : Prop := Ev (d + 2) mX7_net (6, [some (vR (some (17, 0, a0))), some (vI x1), some (vI x2), some (vR (some (0, n3, a3))), some (vI x4), some (vI x5), none, none], [], (I, S)) (.inl (some (vI v)), h1)
theorem w_X7_net_0 {d : Nat} {I : Nat → Nat → Int} {S : PS} {a0 n3 a3 : Nat} {x1 x2 : Int} {v : Int} {h1 : PM} (hl0 : LyX7 S a0)
    (k1 : L_X7_net_6 d a0 x1 x2 n3 a3 0 0 I S v h1) : Ca (d + 2) mX7_net [vR (some (17, 0, a0)), vI x1, vI x2, vR (some (0, n3, a3))] (I, S) (.inl (some (vI v))) h1 :=
  Ca.of rfl rfl (
  b_X7_net_0  (k1))
theorem w_X7_net_6 {d : Nat} {I : Nat → Nat → Int} {S : PS} {a0 n3 a3 : Nat} {x1 x2 x4 x5 : Int} {v : Int} {h1 : PM} (hl0 : LyX7 S a0)
    (k1 : (x5 < x2) → L_X7_net_6 d a0 x1 x2 n3 a3 (if ¬(q_X7_applies I a0 x1 x2 (I a3 x5.toNat) (I a3 (if x5 ≤ 0 then (x2 - 1 : Int) else x5 - 1).toNat) (I a3 (if x2 ≤ x5 + 1 then (0 : Int) else x5 + 1).toNat) = true) then ((if ¬(q_X7_applies I a0 x1 (I a3 x5.toNat) x2 (I a3 (if x5 ≤ 0 then (x2 - 1 : Int) else x5 - 1).toNat) (I a3 (if x2 ≤ x5 + 1 then (0 : Int) else x5 + 1).toNat) = true) then (x4 : Int) else x4 + 1) : Int) else (if ¬(q_X7_applies I a0 x1 (I a3 x5.toNat) x2 (I a3 (if x5 ≤ 0 then (x2 - 1 : Int) else x5 - 1).toNat) (I a3 (if x2 ≤ x5 + 1 then (0 : Int) else x5 + 1).toNat) = true) then (x4 : Int) else x4 + 1) - 1) (x5 + 1) I S v h1)
    (r1 : (x2 ≤ x5) → x4 = v)
    (e1 : (x2 ≤ x5) → (I, S) = h1 := by intros; rfl)
    (v1 : (x5 < x2) → (x5 ≤ 0) → -2147483648 ≤ x2 - 1 ∧ x2 - 1 ≤ 2147483647 := by intros; first | assumption | omega | (split <;> omega))
    (v2 : (x5 < x2) → (0 < x5) → -2147483648 ≤ x5 - 1 ∧ x5 - 1 ≤ 2147483647 := by intros; first | assumption | omega | (split <;> omega))
    (v3 : (x5 < x2) → 0 ≤ (if x5 ≤ 0 then (x2 - 1 : Int) else x5 - 1) ∧ (if x5 ≤ 0 then (x2 - 1 : Int) else x5 - 1) < (n3 : Nat) := by intros; first | assumption | omega | (split <;> omega))
    (v4 : (x5 < x2) → -2147483648 ≤ x5 + 1 ∧ x5 + 1 ≤ 2147483647 := by intros; first | assumption | omega | (split <;> omega))
    (v5 : (x5 < x2) → 0 ≤ (if x2 ≤ x5 + 1 then (0 : Int) else x5 + 1) ∧ (if x2 ≤ x5 + 1 then (0 : Int) else x5 + 1) < (n3 : Nat) := by intros; first | assumption | omega | (split <;> omega))
    (v6 : (x5 < x2) → 0 ≤ x5 ∧ x5 < (n3 : Nat) := by intros; first | assumption | omega | (split <;> omega))
    (v7 : (x5 < x2) → 0 ≤ x1 ∧ x1 < 6 := by intros; first | assumption | omega | (split <;> omega))
    (v8 : (x5 < x2) → (q_X7_applies I a0 x1 (I a3 x5.toNat) x2 (I a3 (if x5 ≤ 0 then (x2 - 1 : Int) else x5 - 1).toNat) (I a3 (if x2 ≤ x5 + 1 then (0 : Int) else x5 + 1).toNat) = true) → -2147483648 ≤ x4 + 1 ∧ x4 + 1 ≤ 2147483647 := by intros; first | assumption | omega | (split <;> omega))
    (v9 : (x5 < x2) → (q_X7_applies I a0 x1 x2 (I a3 x5.toNat) (I a3 (if x5 ≤ 0 then (x2 - 1 : Int) else x5 - 1).toNat) (I a3 (if x2 ≤ x5 + 1 then (0 : Int) else x5 + 1).toNat) = true) → -2147483648 ≤ (if ¬(q_X7_applies I a0 x1 (I a3 x5.toNat) x2 (I a3 (if x5 ≤ 0 then (x2 - 1 : Int) else x5 - 1).toNat) (I a3 (if x2 ≤ x5 + 1 then (0 : Int) else x5 + 1).toNat) = true) then (x4 : Int) else x4 + 1) - 1 ∧ (if ¬(q_X7_applies I a0 x1 (I a3 x5.toNat) x2 (I a3 (if x5 ≤ 0 then (x2 - 1 : Int) else x5 - 1).toNat) (I a3 (if x2 ≤ x5 + 1 then (0 : Int) else x5 + 1).toNat) = true) then (x4 : Int) else x4 + 1) - 1 ≤ 2147483647 := by intros; first | assumption | omega | (split <;> omega)) : L_X7_net_6 d a0 x1 x2 n3 a3 x4 x5 I S v h1 :=
  
  b_X7_net_6  (fun (c1 : x2 ≤ x5) => ev_ret2 (r1 c1) (e1 c1) (b_X7_net_97 )) (fun (c2 : x5 < x2) => 
    have K4 : ∀ us1 : Int, us1 = (if x5 ≤ 0 then (x2 - 1 : Int) else x5 - 1) → Ev (d + 2) mX7_net (28, [some (vR (some (17, 0, a0))), some (vI x1), some (vI x2), some (vR (some (0, n3, a3))), some (vI x4), some (vI x5), none, none], [vI us1, vR (some (0, n3, a3))], (I, S)) (.inl (some (vI v)), h1) := fun us1 e_us1 => by subst e_us1; exact (
      have K7 : ∀ us1 : Int, us1 = (if x2 ≤ x5 + 1 then (0 : Int) else x5 + 1) → Ev (d + 2) mX7_net (48, [some (vR (some (17, 0, a0))), some (vI x1), some (vI x2), some (vR (some (0, n3, a3))), some (vI x4), some (vI x5), some (vI (I a3 (if x5 ≤ 0 then (x2 - 1 : Int) else x5 - 1).toNat)), none], [vI us1, vR (some (0, n3, a3))], (I, S)) (.inl (some (vI v)), h1) := fun us1 e_us1 => by subst e_us1; exact (
        b_X7_net_48 (v5 c2) (v6 c2) (c_X7_applies hl0 (v7 c2)) (
        have K10 : ∀ u4 : Int, u4 = (if ¬(q_X7_applies I a0 x1 (I a3 x5.toNat) x2 (I a3 (if x5 ≤ 0 then (x2 - 1 : Int) else x5 - 1).toNat) (I a3 (if x2 ≤ x5 + 1 then (0 : Int) else x5 + 1).toNat) = true) then (x4 : Int) else x4 + 1) → Ev (d + 2) mX7_net (71, [some (vR (some (17, 0, a0))), some (vI x1), some (vI x2), some (vR (some (0, n3, a3))), some (vI u4), some (vI x5), some (vI (I a3 (if x5 ≤ 0 then (x2 - 1 : Int) else x5 - 1).toNat)), some (vI (I a3 (if x2 ≤ x5 + 1 then (0 : Int) else x5 + 1).toNat))], [], (I, S)) (.inl (some (vI v)), h1) := fun u4 e_u4 => by subst e_u4; exact (
          b_X7_net_71 (v6 c2) (c_X7_applies hl0 (v7 c2)) (
          have K13 : ∀ u4 : Int, u4 = (if ¬(q_X7_applies I a0 x1 x2 (I a3 x5.toNat) (I a3 (if x5 ≤ 0 then (x2 - 1 : Int) else x5 - 1).toNat) (I a3 (if x2 ≤ x5 + 1 then (0 : Int) else x5 + 1).toNat) = true) then ((if ¬(q_X7_applies I a0 x1 (I a3 x5.toNat) x2 (I a3 (if x5 ≤ 0 then (x2 - 1 : Int) else x5 - 1).toNat) (I a3 (if x2 ≤ x5 + 1 then (0 : Int) else x5 + 1).toNat) = true) then (x4 : Int) else x4 + 1) : Int) else (if ¬(q_X7_applies I a0 x1 (I a3 x5.toNat) x2 (I a3 (if x5 ≤ 0 then (x2 - 1 : Int) else x5 - 1).toNat) (I a3 (if x2 ≤ x5 + 1 then (0 : Int) else x5 + 1).toNat) = true) then (x4 : Int) else x4 + 1) - 1) → Ev (d + 2) mX7_net (91, [some (vR (some (17, 0, a0))), some (vI x1), some (vI x2), some (vR (some (0, n3, a3))), some (vI u4), some (vI x5), some (vI (I a3 (if x5 ≤ 0 then (x2 - 1 : Int) else x5 - 1).toNat)), some (vI (I a3 (if x2 ≤ x5 + 1 then (0 : Int) else x5 + 1).toNat))], [], (I, S)) (.inl (some (vI v)), h1) := fun u4 e_u4 => by subst e_u4; exact (
            b_X7_net_91 (v4 c2) ((k1 c2)))
          
          b_X7_net_85  (fun c12' => have c12 : ¬(q_X7_applies I a0 x1 x2 (I a3 x5.toNat) (I a3 (if x5 ≤ 0 then (x2 - 1 : Int) else x5 - 1).toNat) (I a3 (if x2 ≤ x5 + 1 then (0 : Int) else x5 + 1).toNat) = true) := b2f c12'; K13 (if ¬(q_X7_applies I a0 x1 (I a3 x5.toNat) x2 (I a3 (if x5 ≤ 0 then (x2 - 1 : Int) else x5 - 1).toNat) (I a3 (if x2 ≤ x5 + 1 then (0 : Int) else x5 + 1).toNat) = true) then (x4 : Int) else x4 + 1) ((if_pos c12).symm)) (fun c13' => have c13 : q_X7_applies I a0 x1 x2 (I a3 x5.toNat) (I a3 (if x5 ≤ 0 then (x2 - 1 : Int) else x5 - 1).toNat) (I a3 (if x2 ≤ x5 + 1 then (0 : Int) else x5 + 1).toNat) = true := b2t c13'; 
            b_X7_net_88 (v9 c2 c13) (K13 ((if ¬(q_X7_applies I a0 x1 (I a3 x5.toNat) x2 (I a3 (if x5 ≤ 0 then (x2 - 1 : Int) else x5 - 1).toNat) (I a3 (if x2 ≤ x5 + 1 then (0 : Int) else x5 + 1).toNat) = true) then (x4 : Int) else x4 + 1) - 1) ((if_neg (fun q => q c13)).symm)))))
        
        b_X7_net_65  (fun c9' => have c9 : ¬(q_X7_applies I a0 x1 (I a3 x5.toNat) x2 (I a3 (if x5 ≤ 0 then (x2 - 1 : Int) else x5 - 1).toNat) (I a3 (if x2 ≤ x5 + 1 then (0 : Int) else x5 + 1).toNat) = true) := b2f c9'; K10 x4 ((if_pos c9).symm)) (fun c10' => have c10 : q_X7_applies I a0 x1 (I a3 x5.toNat) x2 (I a3 (if x5 ≤ 0 then (x2 - 1 : Int) else x5 - 1).toNat) (I a3 (if x2 ≤ x5 + 1 then (0 : Int) else x5 + 1).toNat) = true := b2t c10'; 
          b_X7_net_68 (v8 c2 c10) (K10 (x4 + 1) ((if_neg (fun q => q c10)).symm)))))
      
      b_X7_net_28 (v3 c2) (v4 c2) (fun (c6 : x2 ≤ x5 + 1) => 
        b_X7_net_47  (K7 0 ((if_pos c6).symm))) (fun (c7 : x5 + 1 < x2) => 
        b_X7_net_40 (v4 c2) (K7 (x5 + 1) ((if_neg (Int.not_le.mpr c7)).symm))))
    
    b_X7_net_12  (fun (c3 : x5 ≤ 0) => 
      b_X7_net_25 (v1 c2 c3) (K4 (x2 - 1) ((if_pos c3).symm))) (fun (c4 : 0 < x5) => 
      b_X7_net_18 (v2 c2 c4) (K4 (x5 - 1) ((if_neg (Int.not_le.mpr c4)).symm))))
abbrev L_X12_sends0_6 (d : Nat) (a0 : Nat) (x1 : Int) (x2 : Int) (x3 : Int) (x4 : Int) (x5 : Int) (x6 : Int) (x7 : Int) (I : Nat → Nat → Int) (S : PS) (v : Int) (h1 : PM) : Prop := Ev (d + 2) mX12_sends0 (6, [some (vR (some (22, 0, a0))), some (vI x1), some (vI x2), some (vI x3), some (vI x4), some (vI x5), some (vI x6), some (vI x7)], [], (I, S)) (.inl (some (vI v)), h1)
theorem w_X12_sends0_0 {d : Nat} {I : Nat → Nat → Int} {S : PS} {x1 x2 x3 x4 x5 : Int} {v : Int} {h1 : PM} (hl0 : LyX12 S)
    (k1 : L_X12_sends0_6 d 156 x1 x2 x3 x4 x5 0 0 I S v h1) : Ca (d + 2) mX12_sends0 [vR (some (22, 0, 156)), vI x1, vI x2, vI x3, vI x4, vI x5] (I, S) (.inl (some (vI v))) h1 :=
  Ca.of rfl rfl (
  b_X12_sends0_0  (k1))
theorem w_X12_sends0_6 {d : Nat} {I : Nat → Nat → Int} {S : PS} {x1 x2 x3 x4 x5 x6 x7 : Int} {v : Int} {h1 : PM} (hl0 : LyX12 S)
    (k1 : (x7 < I 156 14) → L_X12_sends0_6 d 156 x1 x2 x3 x4 x5 (x6 + (if ¬(q_X12_doesSend I x7 x2 x3 x4 x5 = true) then (0 : Int) else I 178 (x1 + 12 + x7).toNat)) (x7 + 1) I S v h1)
    (r1 : (I 156 14 ≤ x7) → x6 = v)
    (e1 : (I 156 14 ≤ x7) → (I, S) = h1 := by intros; rfl)
    (v1 : (x7 < I 156 14) → 0 ≤ x7 ∧ x7 < 6 := by intros; first | assumption | omega | (split <;> omega))
    (v2 : (x7 < I 156 14) → (q_X12_doesSend I x7 x2 x3 x4 x5 = true) → -2147483648 ≤ x1 + 12 ∧ x1 + 12 ≤ 2147483647 := by intros; first | assumption | omega | (split <;> omega))
    (v3 : (x7 < I 156 14) → (q_X12_doesSend I x7 x2 x3 x4 x5 = true) → -2147483648 ≤ x1 + 12 + x7 ∧ x1 + 12 + x7 ≤ 2147483647 := by intros; first | assumption | omega | (split <;> omega))
    (v4 : (x7 < I 156 14) → (q_X12_doesSend I x7 x2 x3 x4 x5 = true) → 0 ≤ x1 + 12 + x7 ∧ x1 + 12 + x7 < (36 : Nat) := by intros; first | assumption | omega | (split <;> omega))
    (v5 : (x7 < I 156 14) → -2147483648 ≤ x6 + (if ¬(q_X12_doesSend I x7 x2 x3 x4 x5 = true) then (0 : Int) else I 178 (x1 + 12 + x7).toNat) ∧ x6 + (if ¬(q_X12_doesSend I x7 x2 x3 x4 x5 = true) then (0 : Int) else I 178 (x1 + 12 + x7).toNat) ≤ 2147483647 := by intros; first | assumption | omega | (split <;> omega))
    (v6 : (x7 < I 156 14) → -2147483648 ≤ x7 + 1 ∧ x7 + 1 ≤ 2147483647 := by intros; first | assumption | omega | (split <;> omega)) : L_X12_sends0_6 d 156 x1 x2 x3 x4 x5 x6 x7 I S v h1 :=
  
  b_X12_sends0_6  (fun (c1 : I 156 14 ≤ x7) => ev_ret2 (r1 c1) (e1 c1) (b_X12_sends0_57 )) (fun (c2 : x7 < I 156 14) => 
    b_X12_sends0_15  (c_X12_doesSend hl0 (v1 c2)) (
    have K4 : ∀ us1 : Int, us1 = (if ¬(q_X12_doesSend I x7 x2 x3 x4 x5 = true) then (0 : Int) else I 178 (x1 + 12 + x7).toNat) → Ev (d + 2) mX12_sends0 (48, [some (vR (some (22, 0, 156))), some (vI x1), some (vI x2), some (vI x3), some (vI x4), some (vI x5), some (vI x6), some (vI x7)], [vI us1, vI x6], (I, S)) (.inl (some (vI v)), h1) := fun us1 e_us1 => by subst e_us1; exact (
      b_X12_sends0_48 (v5 c2) (v6 c2) ((k1 c2)))
    
    b_X12_sends0_29  (fun c3' => have c3 : ¬(q_X12_doesSend I x7 x2 x3 x4 x5 = true) := b2f c3'; 
      b_X12_sends0_47  (K4 0 ((if_pos c3).symm))) (fun c4' => have c4 : q_X12_doesSend I x7 x2 x3 x4 x5 = true := b2t c4'; 
      b_X12_sends0_32 (ly_X12_39 hl0) (v2 c2 c4) (v3 c2 c4) (v4 c2 c4) (K4 (I 178 (x1 + 12 + x7).toNat) ((if_neg (fun q => q c4)).symm)))))
abbrev L_X12_isJoin_3 (d : Nat) (a0 : Nat) (x1 : Int) (x2 : Int) (x3 : Int) (x4 : Int) (I : Nat → Nat → Int) (S : PS) (v : Int) (h1 : PM) : Prop := Ev d mX12_isJoin (3, [some (vR (some (22, 0, a0))), some (vI x1), some (vI x2), some (vI x3), some (vI x4), none, none], [], (I, S)) (.inl (some (vI v)), h1)
theorem w_X12_isJoin_0 {d : Nat} {I : Nat → Nat → Int} {S : PS} {x1 x2 x3 : Int} {v : Int} {h1 : PM} (hl0 : LyX12 S)
    (k1 : L_X12_isJoin_3 d 156 x1 x2 x3 0 I S v h1) : Ca d mX12_isJoin [vR (some (22, 0, 156)), vI x1, vI x2, vI x3] (I, S) (.inl (some (vI v))) h1 :=
  Ca.of rfl rfl (
  b_X12_isJoin_0  (k1))
theorem w_X12_isJoin_3 {d : Nat} {I : Nat → Nat → Int} {S : PS} {x1 x2 x3 x4 : Int} {v : Int} {h1 : PM} (hl0 : LyX12 S)
    (k1 : (x4 < I 159 ((20 * x1) + 10).toNat) → (I 159 (((20 * x1) + 11) + (2 * x4)).toNat ≠ x2) → (I 159 (((20 * x1) + 11) + (2 * x4)).toNat ≠ x3) → L_X12_isJoin_3 d 156 x1 x2 x3 (x4 + 1) I S v h1)
    (k2 : (x4 < I 159 ((20 * x1) + 10).toNat) → (I 159 (((20 * x1) + 11) + (2 * x4)).toNat ≠ x2) → (I 159 (((20 * x1) + 11) + (2 * x4)).toNat = x3) → (I 159 ((((20 * x1) + 11) + (2 * x4)) + 1).toNat ≠ x2) → L_X12_isJoin_3 d 156 x1 x2 x3 (x4 + 1) I S v h1)
    (k3 : (x4 < I 159 ((20 * x1) + 10).toNat) → (I 159 (((20 * x1) + 11) + (2 * x4)).toNat = x2) → (I 159 ((((20 * x1) + 11) + (2 * x4)) + 1).toNat ≠ x3) → (I 159 (((20 * x1) + 11) + (2 * x4)).toNat ≠ x3) → L_X12_isJoin_3 d 156 x1 x2 x3 (x4 + 1) I S v h1)
    (k4 : (x4 < I 159 ((20 * x1) + 10).toNat) → (I 159 (((20 * x1) + 11) + (2 * x4)).toNat = x2) → (I 159 ((((20 * x1) + 11) + (2 * x4)) + 1).toNat ≠ x3) → (I 159 (((20 * x1) + 11) + (2 * x4)).toNat = x3) → (I 159 ((((20 * x1) + 11) + (2 * x4)) + 1).toNat ≠ x2) → L_X12_isJoin_3 d 156 x1 x2 x3 (x4 + 1) I S v h1)
    (r1 : (I 159 ((20 * x1) + 10).toNat ≤ x4) → 0 = v)
    (e1 : (I 159 ((20 * x1) + 10).toNat ≤ x4) → (I, S) = h1 := by intros; rfl)
    (r2 : (x4 < I 159 ((20 * x1) + 10).toNat) → (I 159 (((20 * x1) + 11) + (2 * x4)).toNat ≠ x2) → (I 159 (((20 * x1) + 11) + (2 * x4)).toNat = x3) → (I 159 ((((20 * x1) + 11) + (2 * x4)) + 1).toNat = x2) → 1 = v)
    (e2 : (x4 < I 159 ((20 * x1) + 10).toNat) → (I 159 (((20 * x1) + 11) + (2 * x4)).toNat ≠ x2) → (I 159 (((20 * x1) + 11) + (2 * x4)).toNat = x3) → (I 159 ((((20 * x1) + 11) + (2 * x4)) + 1).toNat = x2) → (I, S) = h1 := by intros; rfl)
    (r3 : (x4 < I 159 ((20 * x1) + 10).toNat) → (I 159 (((20 * x1) + 11) + (2 * x4)).toNat = x2) → (I 159 ((((20 * x1) + 11) + (2 * x4)) + 1).toNat = x3) → 1 = v)
    (e3 : (x4 < I 159 ((20 * x1) + 10).toNat) → (I 159 (((20 * x1) + 11) + (2 * x4)).toNat = x2) → (I 159 ((((20 * x1) + 11) + (2 * x4)) + 1).toNat = x3) → (I, S) = h1 := by intros; rfl)
    (r4 : (x4 < I 159 ((20 * x1) + 10).toNat) → (I 159 (((20 * x1) + 11) + (2 * x4)).toNat = x2) → (I 159 ((((20 * x1) + 11) + (2 * x4)) + 1).toNat ≠ x3) → (I 159 (((20 * x1) + 11) + (2 * x4)).toNat = x3) → (I 159 ((((20 * x1) + 11) + (2 * x4)) + 1).toNat = x2) → 1 = v)
    (e4 : (x4 < I 159 ((20 * x1) + 10).toNat) → (I 159 (((20 * x1) + 11) + (2 * x4)).toNat = x2) → (I 159 ((((20 * x1) + 11) + (2 * x4)) + 1).toNat ≠ x3) → (I 159 (((20 * x1) + 11) + (2 * x4)).toNat = x3) → (I 159 ((((20 * x1) + 11) + (2 * x4)) + 1).toNat = x2) → (I, S) = h1 := by intros; rfl)
    (v1 : -2147483648 ≤ 20 * x1 ∧ 20 * x1 ≤ 2147483647 := by intros; first | assumption | omega | (split <;> omega))
    (v2 : -2147483648 ≤ (20 * x1) + 10 ∧ (20 * x1) + 10 ≤ 2147483647 := by intros; first | assumption | omega | (split <;> omega))
    (v3 : 0 ≤ (20 * x1) + 10 ∧ (20 * x1) + 10 < (80 : Nat) := by intros; first | assumption | omega | (split <;> omega))
    (v4 : (x4 < I 159 ((20 * x1) + 10).toNat) → -2147483648 ≤ (20 * x1) + 11 ∧ (20 * x1) + 11 ≤ 2147483647 := by intros; first | assumption | omega | (split <;> omega))
    (v5 : (x4 < I 159 ((20 * x1) + 10).toNat) → -2147483648 ≤ 2 * x4 ∧ 2 * x4 ≤ 2147483647 := by intros; first | assumption | omega | (split <;> omega))
    (v6 : (x4 < I 159 ((20 * x1) + 10).toNat) → -2147483648 ≤ ((20 * x1) + 11) + (2 * x4) ∧ ((20 * x1) + 11) + (2 * x4) ≤ 2147483647 := by intros; first | assumption | omega | (split <;> omega))
    (v7 : (x4 < I 159 ((20 * x1) + 10).toNat) → 0 ≤ ((20 * x1) + 11) + (2 * x4) ∧ ((20 * x1) + 11) + (2 * x4) < (80 : Nat) := by intros; first | assumption | omega | (split <;> omega))
    (v8 : (x4 < I 159 ((20 * x1) + 10).toNat) → -2147483648 ≤ (((20 * x1) + 11) + (2 * x4)) + 1 ∧ (((20 * x1) + 11) + (2 * x4)) + 1 ≤ 2147483647 := by intros; first | assumption | omega | (split <;> omega))
    (v9 : (x4 < I 159 ((20 * x1) + 10).toNat) → 0 ≤ (((20 * x1) + 11) + (2 * x4)) + 1 ∧ (((20 * x1) + 11) + (2 * x4)) + 1 < (80 : Nat) := by intros; first | assumption | omega | (split <;> omega))
    (v10 : (x4 < I 159 ((20 * x1) + 10).toNat) → (I 159 (((20 * x1) + 11) + (2 * x4)).toNat ≠ x2) → (I 159 (((20 * x1) + 11) + (2 * x4)).toNat ≠ x3) → -2147483648 ≤ x4 + 1 ∧ x4 + 1 ≤ 2147483647 := by intros; first | assumption | omega | (split <;> omega))
    (v11 : (x4 < I 159 ((20 * x1) + 10).toNat) → (I 159 (((20 * x1) + 11) + (2 * x4)).toNat ≠ x2) → (I 159 (((20 * x1) + 11) + (2 * x4)).toNat = x3) → (I 159 ((((20 * x1) + 11) + (2 * x4)) + 1).toNat ≠ x2) → -2147483648 ≤ x4 + 1 ∧ x4 + 1 ≤ 2147483647 := by intros; first | assumption | omega | (split <;> omega))
    (v12 : (x4 < I 159 ((20 * x1) + 10).toNat) → (I 159 (((20 * x1) + 11) + (2 * x4)).toNat = x2) → (I 159 ((((20 * x1) + 11) + (2 * x4)) + 1).toNat ≠ x3) → (I 159 (((20 * x1) + 11) + (2 * x4)).toNat ≠ x3) → -2147483648 ≤ x4 + 1 ∧ x4 + 1 ≤ 2147483647 := by intros; first | assumption | omega | (split <;> omega))
    (v13 : (x4 < I 159 ((20 * x1) + 10).toNat) → (I 159 (((20 * x1) + 11) + (2 * x4)).toNat = x2) → (I 159 ((((20 * x1) + 11) + (2 * x4)) + 1).toNat ≠ x3) → (I 159 (((20 * x1) + 11) + (2 * x4)).toNat = x3) → (I 159 ((((20 * x1) + 11) + (2 * x4)) + 1).toNat ≠ x2) → -2147483648 ≤ x4 + 1 ∧ x4 + 1 ≤ 2147483647 := by intros; first | assumption | omega | (split <;> omega)) : L_X12_isJoin_3 d 156 x1 x2 x3 x4 I S v h1 :=
  
  b_X12_isJoin_3 (ly_X12_19 hl0) v1 v2 v3 (fun (c1 : I 159 ((20 * x1) + 10).toNat ≤ x4) => ev_ret2 (r1 c1) (e1 c1) (b_X12_isJoin_92 )) (fun (c2 : x4 < I 159 ((20 * x1) + 10).toNat) => 
    b_X12_isJoin_20 (ly_X12_19 hl0) v1 (v4 c2) (v5 c2) (v6 c2) (v7 c2) v1 (v4 c2) (v5 c2) (v6 c2) (v8 c2) (v9 c2) (fun (c3 : I 159 (((20 * x1) + 11) + (2 * x4)).toNat ≠ x2) => 
      b_X12_isJoin_72  (fun (c5 : I 159 (((20 * x1) + 11) + (2 * x4)).toNat ≠ x3) => 
        b_X12_isJoin_86 (v10 c2 c3 c5) ((k1 c2 c3 c5))) (fun (c6 : I 159 (((20 * x1) + 11) + (2 * x4)).toNat = x3) => 
        b_X12_isJoin_78  (fun (c7 : I 159 ((((20 * x1) + 11) + (2 * x4)) + 1).toNat ≠ x2) => 
          b_X12_isJoin_86 (v11 c2 c3 c6 c7) ((k2 c2 c3 c6 c7))) (fun (c8 : I 159 ((((20 * x1) + 11) + (2 * x4)) + 1).toNat = x2) => ev_ret2 (r2 c2 c3 c6 c8) (e2 c2 c3 c6 c8) (b_X12_isJoin_84 )))) (fun (c4 : I 159 (((20 * x1) + 11) + (2 * x4)).toNat = x2) => 
      b_X12_isJoin_66  (fun (c9 : I 159 ((((20 * x1) + 11) + (2 * x4)) + 1).toNat = x3) => ev_ret2 (r3 c2 c4 c9) (e3 c2 c4 c9) (b_X12_isJoin_84 )) (fun (c10 : I 159 ((((20 * x1) + 11) + (2 * x4)) + 1).toNat ≠ x3) => 
        b_X12_isJoin_72  (fun (c11 : I 159 (((20 * x1) + 11) + (2 * x4)).toNat ≠ x3) => 
          b_X12_isJoin_86 (v12 c2 c4 c10 c11) ((k3 c2 c4 c10 c11))) (fun (c12 : I 159 (((20 * x1) + 11) + (2 * x4)).toNat = x3) => 
          b_X12_isJoin_78  (fun (c13 : I 159 ((((20 * x1) + 11) + (2 * x4)) + 1).toNat ≠ x2) => 
            b_X12_isJoin_86 (v13 c2 c4 c10 c12 c13) ((k4 c2 c4 c10 c12 c13))) (fun (c14 : I 159 ((((20 * x1) + 11) + (2 * x4)) + 1).toNat = x2) => ev_ret2 (r4 c2 c4 c10 c12 c14) (e4 c2 c4 c10 c12 c14) (b_X12_isJoin_84 ))))))
abbrev L_X12_set_39 (d : Nat) (a0 : Nat) (x1 : Int) (x2 : Int) (x3 : Int) (x4 : Int) (x5 : Int) (I : Nat → Nat → Int) (S : PS) (v : Int) (h1 : PM) : Prop := Ev (d + 2) mX12_set (39, [some (vR (some (22, 0, a0))), some (vI x1), some (vI x2), some (vI x3), some (vI x4), some (vI x5), none, none], [], (I, S)) (.inl (some (vI v)), h1)
theorem w_X12_set_0 {d : Nat} {I : Nat → Nat → Int} {S : PS} {x1 x2 x3 : Int} {v : Int} {h1 : PM} (hl0 : LyX12 S)
    (k1 : ((((0 ≤ x1) ∧ (x1 < I 156 13)))) → ((((0 ≤ x2) ∧ (x2 ≤ 2)))) → ((((0 ≤ x3) ∧ (x3 ≤ 2)))) → L_X12_set_39 d 156 x1 x2 x3 0 0 (up2 I 156 0 0) S v h1)
    (r1 : ((((0 ≤ x1) ∧ (x1 < I 156 13)))) → ((((0 ≤ x2) ∧ (x2 ≤ 2)))) → (¬(((0 ≤ x3) ∧ (x3 ≤ 2)))) → 0 = v)
    (e1 : ((((0 ≤ x1) ∧ (x1 < I 156 13)))) → ((((0 ≤ x2) ∧ (x2 ≤ 2)))) → (¬(((0 ≤ x3) ∧ (x3 ≤ 2)))) → ((up2 (up2 I 156 0 0) 156 0 1), S) = h1 := by intros; rfl)
    (r2 : ((((0 ≤ x1) ∧ (x1 < I 156 13)))) → (¬(((0 ≤ x2) ∧ (x2 ≤ 2)))) → 0 = v)
    (e2 : ((((0 ≤ x1) ∧ (x1 < I 156 13)))) → (¬(((0 ≤ x2) ∧ (x2 ≤ 2)))) → ((up2 (up2 I 156 0 0) 156 0 1), S) = h1 := by intros; rfl)
    (r3 : (¬(((0 ≤ x1) ∧ (x1 < I 156 13)))) → 0 = v)
    (e3 : (¬(((0 ≤ x1) ∧ (x1 < I 156 13)))) → ((up2 (up2 I 156 0 0) 156 0 1), S) = h1 := by intros; rfl) : Ca (d + 2) mX12_set [vR (some (22, 0, 156)), vI x1, vI x2, vI x3] (I, S) (.inl (some (vI v))) h1 :=
  Ca.of rfl rfl (
  (Classical.em ((((0 ≤ x1) ∧ (x1 < I 156 13))))).elim (fun c1 => 
    b_X12_set_0  (c_X12_isPiece_y hl0 (by first | decide | exact (show 0 = 0 from by decide)) c1) (
    b_X12_set_10  (fun c => absurd c (by decide)) (fun _ => 
      (Classical.em ((((0 ≤ x2) ∧ (x2 ≤ 2))))).elim (fun c3 => 
        b_X12_set_13  (c_X12_isWhat_y hl0 (by first | decide | exact (show 0 = 0 from by decide)) c3) (
        b_X12_set_19  (fun c => absurd c (by decide)) (fun _ => 
          (Classical.em ((((0 ≤ x3) ∧ (x3 ≤ 2))))).elim (fun c5 => 
            b_X12_set_22  (c_X12_isWhat_y hl0 (by first | decide | exact (show 0 = 0 from by decide)) c5) (
            b_X12_set_28  (fun _ => 
              b_X12_set_33  ((k1 c1 c3 c5))) (fun c => absurd c (by decide)))) (fun c6 => 
            b_X12_set_22  (c_X12_isWhat_n hl0 (by first | decide | exact (show 0 = 0 from by decide)) c6) (
            b_X12_set_28  (fun c => absurd c (by decide)) (fun _ => ev_ret2 (r1 c1 c3 c6) (e1 c1 c3 c6) (b_X12_set_31 ))))))) (fun c4 => 
        b_X12_set_13  (c_X12_isWhat_n hl0 (by first | decide | exact (show 0 = 0 from by decide)) c4) (
        b_X12_set_19  (fun _ => ev_ret2 (r2 c1 c4) (e2 c1 c4) (b_X12_set_31 )) (fun c => absurd c (by decide))))))) (fun c2 => 
    b_X12_set_0  (c_X12_isPiece_n hl0 (by first | decide | exact (show 0 = 0 from by decide)) c2) (
    b_X12_set_10  (fun _ => ev_ret2 (r3 c2) (e3 c2) (b_X12_set_31 )) (fun c => absurd c (by decide)))))
theorem w_X12_set_39 {d : Nat} {I : Nat → Nat → Int} {S : PS} {x1 x2 x3 x4 x5 : Int} {v : Int} {h1 : PM} (hl0 : LyX12 S)
    (k1 : (x5 < 32) → ((32 * x3) + x5 < I 167 x1.toNat) → L_X12_set_39 d 156 x1 x2 x3 (p_or x4 (if ¬(((x2 ≠ 0) ∧ (((x2 ≠ 1) ∧ (I 170 (((96 * x1) + (32 * x3)) + x5).toNat = 1)) ∨ ((x2 = 1) ∧ (I 171 (((96 * x1) + (32 * x3)) + x5).toNat = (-1))))) ∨ ((x2 = 0) ∧ (I 169 (((96 * x1) + (32 * x3)) + x5).toNat = 1))) then (0 : Int) else p_shl 1 x5)) (x5 + 1) I S v h1)
    (r1 : (32 ≤ x5) → x4 = v)
    (e1 : (32 ≤ x5) → (I, S) = h1 := by intros; rfl)
    (r2 : (x5 < 32) → (I 167 x1.toNat ≤ (32 * x3) + x5) → x4 = v)
    (e2 : (x5 < 32) → (I 167 x1.toNat ≤ (32 * x3) + x5) → (I, S) = h1 := by intros; rfl)
    (v1 : (x5 < 32) → -2147483648 ≤ 32 * x3 ∧ 32 * x3 ≤ 2147483647 := by intros; first | assumption | omega | (split <;> omega))
    (v2 : (x5 < 32) → -2147483648 ≤ (32 * x3) + x5 ∧ (32 * x3) + x5 ≤ 2147483647 := by intros; first | assumption | omega | (split <;> omega))
    (v3 : (x5 < 32) → 0 ≤ x1 ∧ x1 < (4 : Nat) := by intros; first | assumption | omega | (split <;> omega))
    (v4 : (x5 < 32) → ((32 * x3) + x5 < I 167 x1.toNat) → -2147483648 ≤ 96 * x1 ∧ 96 * x1 ≤ 2147483647 := by intros; first | assumption | omega | (split <;> omega))
    (v5 : (x5 < 32) → ((32 * x3) + x5 < I 167 x1.toNat) → -2147483648 ≤ (96 * x1) + (32 * x3) ∧ (96 * x1) + (32 * x3) ≤ 2147483647 := by intros; first | assumption | omega | (split <;> omega))
    (v6 : (x5 < 32) → ((32 * x3) + x5 < I 167 x1.toNat) → -2147483648 ≤ ((96 * x1) + (32 * x3)) + x5 ∧ ((96 * x1) + (32 * x3)) + x5 ≤ 2147483647 := by intros; first | assumption | omega | (split <;> omega))
    (v7 : (x5 < 32) → ((32 * x3) + x5 < I 167 x1.toNat) → (x2 ≠ 0) → (x2 ≠ 1) → 0 ≤ ((96 * x1) + (32 * x3)) + x5 ∧ ((96 * x1) + (32 * x3)) + x5 < (384 : Nat) := by intros; first | assumption | omega | (split <;> omega))
    (v8 : (x5 < 32) → ((32 * x3) + x5 < I 167 x1.toNat) → (x2 ≠ 0) → (x2 = 1) → 0 ≤ ((96 * x1) + (32 * x3)) + x5 ∧ ((96 * x1) + (32 * x3)) + x5 < (384 : Nat) := by intros; first | assumption | omega | (split <;> omega))
    (v9 : (x5 < 32) → ((32 * x3) + x5 < I 167 x1.toNat) → (x2 = 0) → 0 ≤ ((96 * x1) + (32 * x3)) + x5 ∧ ((96 * x1) + (32 * x3)) + x5 < (384 : Nat) := by intros; first | assumption | omega | (split <;> omega))
    (v10 : (x5 < 32) → ((32 * x3) + x5 < I 167 x1.toNat) → -2147483648 ≤ x5 + 1 ∧ x5 + 1 ≤ 2147483647 := by intros; first | assumption | omega | (split <;> omega)) : L_X12_set_39 d 156 x1 x2 x3 x4 x5 I S v h1 :=
  
  b_X12_set_39  (fun (c1 : 32 ≤ x5) => ev_ret2 (r1 c1) (e1 c1) (b_X12_set_165 )) (fun (c2 : x5 < 32) => 
    b_X12_set_46 (v1 c2) (v2 c2) (ly_X12_27 hl0) (v3 c2) (fun (c3 : I 167 x1.toNat ≤ (32 * x3) + x5) => ev_ret2 (r2 c2 c3) (e2 c2 c3) (b_X12_set_165 )) (fun (c4 : (32 * x3) + x5 < I 167 x1.toNat) => 
      have K14 : ∀ us0 : Int, us0 = (if ((x2 ≠ 0) ∧ (((x2 ≠ 1) ∧ (I 170 (((96 * x1) + (32 * x3)) + x5).toNat = 1)) ∨ ((x2 = 1) ∧ (I 171 (((96 * x1) + (32 * x3)) + x5).toNat = (-1))))) ∨ ((x2 = 0) ∧ (I 169 (((96 * x1) + (32 * x3)) + x5).toNat = 1)) then (1 : Int) else 0) → Ev (d + 2) mX12_set (139, [some (vR (some (22, 0, 156))), some (vI x1), some (vI x2), some (vI x3), some (vI x4), some (vI x5), some (vI (((96 * x1) + (32 * x3)) + x5)), none], [vI us0], (I, S)) (.inl (some (vI v)), h1) := fun us0 e_us0 => by subst e_us0; exact (
        have K17 : ∀ us1 : Int, us1 = (if ¬(((x2 ≠ 0) ∧ (((x2 ≠ 1) ∧ (I 170 (((96 * x1) + (32 * x3)) + x5).toNat = 1)) ∨ ((x2 = 1) ∧ (I 171 (((96 * x1) + (32 * x3)) + x5).toNat = (-1))))) ∨ ((x2 = 0) ∧ (I 169 (((96 * x1) + (32 * x3)) + x5).toNat = 1))) then (0 : Int) else p_shl 1 x5) → Ev (d + 2) mX12_set (156, [some (vR (some (22, 0, 156))), some (vI x1), some (vI x2), some (vI x3), some (vI x4), some (vI x5), some (vI (((96 * x1) + (32 * x3)) + x5)), some (vI (if ((x2 ≠ 0) ∧ (((x2 ≠ 1) ∧ (I 170 (((96 * x1) + (32 * x3)) + x5).toNat = 1)) ∨ ((x2 = 1) ∧ (I 171 (((96 * x1) + (32 * x3)) + x5).toNat = (-1))))) ∨ ((x2 = 0) ∧ (I 169 (((96 * x1) + (32 * x3)) + x5).toNat = 1)) then (1 : Int) else 0))], [vI us1, vI x4], (I, S)) (.inl (some (vI v)), h1) := fun us1 e_us1 => by subst e_us1; exact (
          b_X12_set_156 (v10 c2 c4) ((k1 c2 c4)))
        
        b_X12_set_139  (fun c16' => have c16 : ¬(((x2 ≠ 0) ∧ (((x2 ≠ 1) ∧ (I 170 (((96 * x1) + (32 * x3)) + x5).toNat = 1)) ∨ ((x2 = 1) ∧ (I 171 (((96 * x1) + (32 * x3)) + x5).toNat = (-1))))) ∨ ((x2 = 0) ∧ (I 169 (((96 * x1) + (32 * x3)) + x5).toNat = 1))) := b2f c16'; 
          b_X12_set_155  (K17 0 ((if_pos c16).symm))) (fun c17' => have c17 : ((x2 ≠ 0) ∧ (((x2 ≠ 1) ∧ (I 170 (((96 * x1) + (32 * x3)) + x5).toNat = 1)) ∨ ((x2 = 1) ∧ (I 171 (((96 * x1) + (32 * x3)) + x5).toNat = (-1))))) ∨ ((x2 = 0) ∧ (I 169 (((96 * x1) + (32 * x3)) + x5).toNat = 1)) := b2t c17'; 
          b_X12_set_148  (K17 (p_shl 1 x5) ((if_neg (fun q => q c17)).symm))))
      
      b_X12_set_62 (v4 c2 c4) (v1 c2) (v5 c2 c4) (v6 c2 c4) (fun (c5 : x2 ≠ 0) => 
        b_X12_set_99  (fun (c7 : x2 ≠ 1) => 
          b_X12_set_123 (ly_X12_30 hl0) (v7 c2 c4 c5 c7) (fun (c9 : I 170 (((96 * x1) + (32 * x3)) + x5).toNat ≠ 1) => 
            b_X12_set_138  (K14 0 (if_neg (fun q => q.elim (fun q => (fun q => q.elim (fun q => c9 q.2) (fun q => c7 q.1)) q.2) (fun q => c5 q.1))).symm)) (fun (c10 : I 170 (((96 * x1) + (32 * x3)) + x5).toNat = 1) => 
            b_X12_set_134  (K14 1 (if_pos (Or.inl ⟨c5, (Or.inl ⟨c7, c10⟩)⟩)).symm))) (fun (c8 : x2 = 1) => 
          b_X12_set_104 (ly_X12_31 hl0) (v8 c2 c4 c5 c8) (fun (c11 : I 171 (((96 * x1) + (32 * x3)) + x5).toNat ≠ (-1)) => 
            b_X12_set_119  (K14 0 (if_neg (fun q => q.elim (fun q => (fun q => q.elim (fun q => (fun q => q c8) q.1) (fun q => c11 q.2)) q.2) (fun q => c5 q.1))).symm)) (fun (c12 : I 171 (((96 * x1) + (32 * x3)) + x5).toNat = (-1)) => 
            b_X12_set_115  (K14 1 (if_pos (Or.inl ⟨c5, (Or.inr ⟨c8, c12⟩)⟩)).symm)))) (fun (c6 : x2 = 0) => 
        b_X12_set_80 (ly_X12_29 hl0) (v9 c2 c4 c6) (fun (c13 : I 169 (((96 * x1) + (32 * x3)) + x5).toNat ≠ 1) => 
          b_X12_set_95  (K14 0 (if_neg (fun q => q.elim (fun q => (fun q => q c6) q.1) (fun q => c13 q.2))).symm)) (fun (c14 : I 169 (((96 * x1) + (32 * x3)) + x5).toNat = 1) => 
          b_X12_set_91  (K14 1 (if_pos (Or.inr ⟨c6, c14⟩)).symm)))))
abbrev L_X6_split_8 (d : Nat) (a0 : Nat) (x1 : Int) (x2 : Int) (x3 : Int) (x4 : Int) (x5 : Int) (I : Nat → Nat → Int) (S : PS) (v : Int) (h1 : PM) : Prop := Ev d mX6_split (8, [some (vR (some (16, 0, a0))), some (vI x1), some (vI x2), some (vI x3), some (vI x4), some (vI x5), none, none], [], (I, S)) (.inl (some (vI v)), h1)
abbrev L_X6_split_103 (d : Nat) (a0 : Nat) (x1 : Int) (x2 : Int) (x3 : Int) (x4 : Int) (x5 : Int) (I : Nat → Nat → Int) (S : PS) (v : Int) (h1 : PM) : Prop := Ev d mX6_split (103, [some (vR (some (16, 0, a0))), some (vI x1), some (vI x2), some (vI x3), some (vI x4), some (vI x5), none, none], [], (I, S)) (.inl (some (vI v)), h1)
theorem w_X6_split_0 {d : Nat} {I : Nat → Nat → Int} {S : PS} {a0 : Nat} {x1 x2 : Int} {v : Int} {h1 : PM} (hl0 : LyX6 S a0)
    (k1 : L_X6_split_8 d a0 x1 x2 0 1 0 I S v h1) : Ca d mX6_split [vR (some (16, 0, a0)), vI x1, vI x2] (I, S) (.inl (some (vI v))) h1 :=
  Ca.of rfl rfl (
  b_X6_split_0  (k1))
theorem w_X6_split_8 {d : Nat} {I : Nat → Nat → Int} {S : PS} {a0 : Nat} {x1 x2 x3 x4 x5 : Int} {v : Int} {h1 : PM} (hl0 : LyX6 S a0)
    (k1 : (I a0 0 ≤ x5) → (x3 ≠ 0) → (x4 ≠ 0) → L_X6_split_103 d a0 x1 x2 x3 x4 (I a0 0 - 1) I S v h1)
    (k2 : (x5 < I a0 0) → L_X6_split_8 d a0 x1 x2 (if (if (p_and (p_shr x1 (2 * (I a0 0 - 1 - x5))) 3 = 0) ∨ (p_and (p_shr x1 (2 * (I a0 0 - 1 - x5))) 3 = x2 + 1) then (1 : Int) else 0) = x4 then (x3 : Int) else x3 + 1) (if (p_and (p_shr x1 (2 * (I a0 0 - 1 - x5))) 3 = 0) ∨ (p_and (p_shr x1 (2 * (I a0 0 - 1 - x5))) 3 = x2 + 1) then (1 : Int) else 0) (x5 + 1) (up2 I (a0 + 2) (x5.toNat) (if (if (p_and (p_shr x1 (2 * (I a0 0 - 1 - x5))) 3 = 0) ∨ (p_and (p_shr x1 (2 * (I a0 0 - 1 - x5))) 3 = x2 + 1) then (1 : Int) else 0) = x4 then (x3 : Int) else x3 + 1)) S v h1)
    (r1 : (I a0 0 ≤ x5) → (x3 = 0) → x3 + 1 = v)
    (e1 : (I a0 0 ≤ x5) → (x3 = 0) → (I, S) = h1 := by intros; rfl)
    (r2 : (I a0 0 ≤ x5) → (x3 ≠ 0) → (x4 = 0) → x3 + 1 = v)
    (e2 : (I a0 0 ≤ x5) → (x3 ≠ 0) → (x4 = 0) → (I, S) = h1 := by intros; rfl)
    (v1 : (I a0 0 ≤ x5) → (x3 = 0) → -2147483648 ≤ x3 + 1 ∧ x3 + 1 ≤ 2147483647 := by intros; first | assumption | omega | (split <;> omega))
    (v2 : (I a0 0 ≤ x5) → (x3 ≠ 0) → (x4 ≠ 0) → -2147483648 ≤ I a0 0 - 1 ∧ I a0 0 - 1 ≤ 2147483647 := by intros; first | assumption | omega | (split <;> omega))
    (v3 : (I a0 0 ≤ x5) → (x3 ≠ 0) → (x4 = 0) → -2147483648 ≤ x3 + 1 ∧ x3 + 1 ≤ 2147483647 := by intros; first | assumption | omega | (split <;> omega))
    (v4 : (x5 < I a0 0) → -2147483648 ≤ I a0 0 - 1 ∧ I a0 0 - 1 ≤ 2147483647 := by intros; first | assumption | omega | (split <;> omega))
    (v5 : (x5 < I a0 0) → -2147483648 ≤ I a0 0 - 1 - x5 ∧ I a0 0 - 1 - x5 ≤ 2147483647 := by intros; first | assumption | omega | (split <;> omega))
    (v6 : (x5 < I a0 0) → -2147483648 ≤ 2 * (I a0 0 - 1 - x5) ∧ 2 * (I a0 0 - 1 - x5) ≤ 2147483647 := by intros; first | assumption | omega | (split <;> omega))
    (v7 : (x5 < I a0 0) → (p_and (p_shr x1 (2 * (I a0 0 - 1 - x5))) 3 ≠ 0) → -2147483648 ≤ x2 + 1 ∧ x2 + 1 ≤ 2147483647 := by intros; first | assumption | omega | (split <;> omega))
    (v8 : (x5 < I a0 0) → ((if (p_and (p_shr x1 (2 * (I a0 0 - 1 - x5))) 3 = 0) ∨ (p_and (p_shr x1 (2 * (I a0 0 - 1 - x5))) 3 = x2 + 1) then (1 : Int) else 0) ≠ x4) → -2147483648 ≤ x3 + 1 ∧ x3 + 1 ≤ 2147483647 := by intros; first | assumption | omega | (split <;> omega))
    (v9 : (x5 < I a0 0) → 0 ≤ x5 ∧ x5 < (7 : Nat) := by intros; first | assumption | omega | (split <;> omega))
    (v10 : (x5 < I a0 0) → -2147483648 ≤ x5 + 1 ∧ x5 + 1 ≤ 2147483647 := by intros; first | assumption | omega | (split <;> omega)) : L_X6_split_8 d a0 x1 x2 x3 x4 x5 I S v h1 :=
  
  b_X6_split_8  (fun (c1 : I a0 0 ≤ x5) => 
    b_X6_split_82  (fun (c3 : x3 = 0) => ev_ret2 (r1 c1 c3) (e1 c1 c3) (b_X6_split_91 (v1 c1 c3))) (fun (c4 : x3 ≠ 0) => 
      b_X6_split_86  (fun (c5 : x4 ≠ 0) => 
        b_X6_split_95 (v2 c1 c4 c5) ((k1 c1 c4 c5))) (fun (c6 : x4 = 0) => ev_ret2 (r2 c1 c4 c6) (e2 c1 c4 c6) (b_X6_split_91 (v3 c1 c4 c6))))) (fun (c2 : x5 < I a0 0) => 
    have K10 : ∀ us0 : Int, us0 = (if (p_and (p_shr x1 (2 * (I a0 0 - 1 - x5))) 3 = 0) ∨ (p_and (p_shr x1 (2 * (I a0 0 - 1 - x5))) 3 = x2 + 1) then (1 : Int) else 0) → Ev d mX6_split (52, [some (vR (some (16, 0, a0))), some (vI x1), some (vI x2), some (vI x3), some (vI x4), some (vI x5), some (vI (p_and (p_shr x1 (2 * (I a0 0 - 1 - x5))) 3)), none], [vI us0], (I, S)) (.inl (some (vI v)), h1) := fun us0 e_us0 => by subst e_us0; exact (
      have K13 : ∀ u3 : Int, u3 = (if (if (p_and (p_shr x1 (2 * (I a0 0 - 1 - x5))) 3 = 0) ∨ (p_and (p_shr x1 (2 * (I a0 0 - 1 - x5))) 3 = x2 + 1) then (1 : Int) else 0) = x4 then (x3 : Int) else x3 + 1) → Ev d mX6_split (64, [some (vR (some (16, 0, a0))), some (vI x1), some (vI x2), some (vI u3), some (vI x4), some (vI x5), some (vI (p_and (p_shr x1 (2 * (I a0 0 - 1 - x5))) 3)), some (vI (if (p_and (p_shr x1 (2 * (I a0 0 - 1 - x5))) 3 = 0) ∨ (p_and (p_shr x1 (2 * (I a0 0 - 1 - x5))) 3 = x2 + 1) then (1 : Int) else 0))], [], (I, S)) (.inl (some (vI v)), h1) := fun u3 e_u3 => by subst e_u3; exact (
        b_X6_split_64 (ly_X6_3 hl0) (v9 c2) (v10 c2) ((k2 c2)))
      
      b_X6_split_52  (fun (c12 : (if (p_and (p_shr x1 (2 * (I a0 0 - 1 - x5))) 3 = 0) ∨ (p_and (p_shr x1 (2 * (I a0 0 - 1 - x5))) 3 = x2 + 1) then (1 : Int) else 0) = x4) => K13 x3 ((if_pos c12).symm)) (fun (c13 : (if (p_and (p_shr x1 (2 * (I a0 0 - 1 - x5))) 3 = 0) ∨ (p_and (p_shr x1 (2 * (I a0 0 - 1 - x5))) 3 = x2 + 1) then (1 : Int) else 0) ≠ x4) => 
        b_X6_split_61 (v8 c2 c13) (K13 (x3 + 1) ((if_neg c13).symm))))
    
    b_X6_split_17 (v4 c2) (v5 c2) (v6 c2) (fun (c7 : p_and (p_shr x1 (2 * (I a0 0 - 1 - x5))) 3 = 0) => 
      b_X6_split_47  (K10 1 (if_pos (Or.inl c7)).symm)) (fun (c8 : p_and (p_shr x1 (2 * (I a0 0 - 1 - x5))) 3 ≠ 0) => 
      b_X6_split_39 (v7 c2 c8) (fun (c9 : p_and (p_shr x1 (2 * (I a0 0 - 1 - x5))) 3 ≠ x2 + 1) => 
        b_X6_split_51  (K10 0 (if_neg (fun q => q.elim c8 c9)).symm)) (fun (c10 : p_and (p_shr x1 (2 * (I a0 0 - 1 - x5))) 3 = x2 + 1) => 
        b_X6_split_47  (K10 1 (if_pos (Or.inr c10)).symm))))
theorem w_X6_split_103 {d : Nat} {I : Nat → Nat → Int} {S : PS} {a0 : Nat} {x1 x2 x3 x4 x5 : Int} {v : Int} {h1 : PM} (hl0 : LyX6 S a0)
    (k1 : (0 ≤ x5) → (I (a0 + 2) x5.toNat = x3) → L_X6_split_103 d a0 x1 x2 x3 x4 (x5 - 1) (up2 I (a0 + 2) (x5.toNat) 0) S v h1)
    (r1 : (x5 < 0) → x3 = v)
    (e1 : (x5 < 0) → (I, S) = h1 := by intros; rfl)
    (r2 : (0 ≤ x5) → (I (a0 + 2) x5.toNat ≠ x3) → x3 = v)
    (e2 : (0 ≤ x5) → (I (a0 + 2) x5.toNat ≠ x3) → (I, S) = h1 := by intros; rfl)
    (v1 : (0 ≤ x5) → 0 ≤ x5 ∧ x5 < (7 : Nat) := by intros; first | assumption | omega | (split <;> omega))
    (v2 : (0 ≤ x5) → (I (a0 + 2) x5.toNat = x3) → -2147483648 ≤ x5 - 1 ∧ x5 - 1 ≤ 2147483647 := by intros; first | assumption | omega | (split <;> omega)) : L_X6_split_103 d a0 x1 x2 x3 x4 x5 I S v h1 :=
  
  b_X6_split_103  (fun (c1 : x5 < 0) => ev_ret2 (r1 c1) (e1 c1) (b_X6_split_133 )) (fun (c2 : 0 ≤ x5) => 
    b_X6_split_108 (ly_X6_3 hl0) (v1 c2) (fun (c3 : I (a0 + 2) x5.toNat ≠ x3) => ev_ret2 (r2 c2 c3) (e2 c2 c3) (b_X6_split_133 )) (fun (c4 : I (a0 + 2) x5.toNat = x3) => 
      b_X6_split_119 (ly_X6_3 hl0) (v1 c2) (v2 c2 c4) ((k1 c2 c4))))
abbrev L_X12_laysRuns_8 (d : Nat) (a0 : Nat) (x1 : Int) (x2 : Int) (x3 : Int) (x4 : Int) (I : Nat → Nat → Int) (S : PS) (h1 : PM) : Prop := Ev (d + 2) mX12_laysRuns (8, [some (vR (some (22, 0, a0))), some (vI x1), some (vI x2), some (vI x3), some (vI x4)], [], (I, S)) (.inl none, h1)
abbrev L_X12_laysRuns_130 (d : Nat) (a0 : Nat) (x1 : Int) (x2 : Int) (x3 : Int) (x4 : Int) (I : Nat → Nat → Int) (S : PS) (h1 : PM) : Prop := Ev (d + 2) mX12_laysRuns (130, [some (vR (some (22, 0, a0))), some (vI x1), some (vI x2), some (vI x3), some (vI x4)], [], (I, S)) (.inl none, h1)
theorem w_X12_laysRuns_0 {d : Nat} {I : Nat → Nat → Int} {S : PS} {x1 x2 x3 : Int} {h1 : PM} (hl0 : LyX12 S)
    (k1 : L_X12_laysRuns_8 d 156 x1 x2 x3 0 (up2 I 156 37 0) S h1) : Ca (d + 2) mX12_laysRuns [vR (some (22, 0, 156)), vI x1, vI x2, vI x3] (I, S) (.inl none) h1 :=
  Ca.of rfl rfl (
  b_X12_laysRuns_0  (k1))
theorem w_X12_laysRuns_8 {d : Nat} {I : Nat → Nat → Int} {S : PS} {x1 x2 x3 x4 : Int} {h1 : PM} (hl0 : LyX12 S)
    (k1 : (I 159 ((20 * x1) + 9).toNat ≤ x4) → (1 < (I 156 37 + 1)) → (((p_and (p_shr x2 (2 * (((I 159 ((20 * x1) + 9).toNat) - 1) - ((I 159 ((20 * x1) + 9).toNat) - 1)))) 3) = 0) ∨ ((p_and (p_shr x2 (2 * (((I 159 ((20 * x1) + 9).toNat) - 1) - ((I 159 ((20 * x1) + 9).toNat) - 1)))) 3) = x3 + 1)) → L_X12_laysRuns_130 d 156 x1 x2 x3 0 (up2 (up2 I 156 37 (I 156 37 + 1)) 156 37 ((I 156 37 + 1) - 1)) S h1)
    (k2 : (x4 < I 159 ((20 * x1) + 9).toNat) → (x4 ≤ 0) → L_X12_laysRuns_8 d 156 x1 x2 x3 (x4 + 1) (up2 I 175 (x4.toNat) (I 156 37)) S h1)
    (k3 : (x4 < I 159 ((20 * x1) + 9).toNat) → (0 < x4) → ((if ((p_and (p_shr x2 (2 * (((I 159 ((20 * x1) + 9).toNat) - 1) - x4))) 3) = 0) ∨ ((p_and (p_shr x2 (2 * (((I 159 ((20 * x1) + 9).toNat) - 1) - x4))) 3) = x3 + 1) then (1 : Int) else 0) = (if ((p_and (p_shr x2 (2 * (((I 159 ((20 * x1) + 9).toNat) - 1) - (x4 - 1)))) 3) = 0) ∨ ((p_and (p_shr x2 (2 * (((I 159 ((20 * x1) + 9).toNat) - 1) - (x4 - 1)))) 3) = x3 + 1) then (1 : Int) else 0)) → L_X12_laysRuns_8 d 156 x1 x2 x3 (x4 + 1) (up2 I 175 (x4.toNat) (I 156 37)) S h1)
    (k4 : (x4 < I 159 ((20 * x1) + 9).toNat) → (0 < x4) → ((if ((p_and (p_shr x2 (2 * (((I 159 ((20 * x1) + 9).toNat) - 1) - x4))) 3) = 0) ∨ ((p_and (p_shr x2 (2 * (((I 159 ((20 * x1) + 9).toNat) - 1) - x4))) 3) = x3 + 1) then (1 : Int) else 0) ≠ (if ((p_and (p_shr x2 (2 * (((I 159 ((20 * x1) + 9).toNat) - 1) - (x4 - 1)))) 3) = 0) ∨ ((p_and (p_shr x2 (2 * (((I 159 ((20 * x1) + 9).toNat) - 1) - (x4 - 1)))) 3) = x3 + 1) then (1 : Int) else 0)) → L_X12_laysRuns_8 d 156 x1 x2 x3 (x4 + 1) (up2 (up2 I 156 37 (I 156 37 + 1)) 175 (x4.toNat) (I 156 37 + 1)) S h1)
    (e1 : (I 159 ((20 * x1) + 9).toNat ≤ x4) → ((I 156 37 + 1) ≤ 1) → ((up2 I 156 37 (I 156 37 + 1)), S) = h1 := by intros; rfl)
    (e2 : (I 159 ((20 * x1) + 9).toNat ≤ x4) → (1 < (I 156 37 + 1)) → (¬(((p_and (p_shr x2 (2 * (((I 159 ((20 * x1) + 9).toNat) - 1) - ((I 159 ((20 * x1) + 9).toNat) - 1)))) 3) = 0) ∨ ((p_and (p_shr x2 (2 * (((I 159 ((20 * x1) + 9).toNat) - 1) - ((I 159 ((20 * x1) + 9).toNat) - 1)))) 3) = x3 + 1))) → ((up2 I 156 37 (I 156 37 + 1)), S) = h1 := by intros; rfl)
    (v1 : 0 ≤ x1 ∧ x1 < 4 := by intros; first | assumption | omega | (split <;> omega))
    (v2 : (I 159 ((20 * x1) + 9).toNat ≤ x4) → -2147483648 ≤ I 156 37 + 1 ∧ I 156 37 + 1 ≤ 2147483647 := by intros; first | assumption | omega | (split <;> omega))
    (v3 : (I 159 ((20 * x1) + 9).toNat ≤ x4) → (1 < (I 156 37 + 1)) → -2147483648 ≤ (I 159 ((20 * x1) + 9).toNat) - 1 ∧ (I 159 ((20 * x1) + 9).toNat) - 1 ≤ 2147483647 := by intros; first | assumption | omega | (split <;> omega))
    (v4 : (I 159 ((20 * x1) + 9).toNat ≤ x4) → (1 < (I 156 37 + 1)) → 0 ≤ I 159 ((20 * x1) + 9).toNat ∧ I 159 ((20 * x1) + 9).toNat ≤ 7 := by intros; first | assumption | omega | (split <;> omega))
    (v5 : (I 159 ((20 * x1) + 9).toNat ≤ x4) → (1 < (I 156 37 + 1)) → 0 ≤ ((I 159 ((20 * x1) + 9).toNat) - 1) ∧ ((I 159 ((20 * x1) + 9).toNat) - 1) ≤ 7 := by intros; first | assumption | omega | (split <;> omega))
    (v6 : (I 159 ((20 * x1) + 9).toNat ≤ x4) → (1 < (I 156 37 + 1)) → ((p_and (p_shr x2 (2 * (((I 159 ((20 * x1) + 9).toNat) - 1) - ((I 159 ((20 * x1) + 9).toNat) - 1)))) 3) ≠ 0) → -2147483648 ≤ x3 + 1 ∧ x3 + 1 ≤ 2147483647 := by intros; first | assumption | omega | (split <;> omega))
    (v7 : (I 159 ((20 * x1) + 9).toNat ≤ x4) → (1 < (I 156 37 + 1)) → (((p_and (p_shr x2 (2 * (((I 159 ((20 * x1) + 9).toNat) - 1) - ((I 159 ((20 * x1) + 9).toNat) - 1)))) 3) = 0) ∨ ((p_and (p_shr x2 (2 * (((I 159 ((20 * x1) + 9).toNat) - 1) - ((I 159 ((20 * x1) + 9).toNat) - 1)))) 3) = x3 + 1)) → -2147483648 ≤ (I 156 37 + 1) - 1 ∧ (I 156 37 + 1) - 1 ≤ 2147483647 := by intros; first | assumption | omega | (split <;> omega))
    (v8 : (x4 < I 159 ((20 * x1) + 9).toNat) → (x4 ≤ 0) → 0 ≤ x4 ∧ x4 < (7 : Nat) := by intros; first | assumption | omega | (split <;> omega))
    (v9 : (x4 < I 159 ((20 * x1) + 9).toNat) → (x4 ≤ 0) → -2147483648 ≤ x4 + 1 ∧ x4 + 1 ≤ 2147483647 := by intros; first | assumption | omega | (split <;> omega))
    (v10 : (x4 < I 159 ((20 * x1) + 9).toNat) → (0 < x4) → 0 ≤ I 159 ((20 * x1) + 9).toNat ∧ I 159 ((20 * x1) + 9).toNat ≤ 7 := by intros; first | assumption | omega | (split <;> omega))
    (v11 : (x4 < I 159 ((20 * x1) + 9).toNat) → (0 < x4) → 0 ≤ x4 ∧ x4 ≤ 7 := by intros; first | assumption | omega | (split <;> omega))
    (v12 : (x4 < I 159 ((20 * x1) + 9).toNat) → (0 < x4) → ((p_and (p_shr x2 (2 * (((I 159 ((20 * x1) + 9).toNat) - 1) - x4))) 3) ≠ 0) → -2147483648 ≤ x3 + 1 ∧ x3 + 1 ≤ 2147483647 := by intros; first | assumption | omega | (split <;> omega))
    (v13 : (x4 < I 159 ((20 * x1) + 9).toNat) → (0 < x4) → -2147483648 ≤ x4 - 1 ∧ x4 - 1 ≤ 2147483647 := by intros; first | assumption | omega | (split <;> omega))
    (v14 : (x4 < I 159 ((20 * x1) + 9).toNat) → (0 < x4) → 0 ≤ (x4 - 1) ∧ (x4 - 1) ≤ 7 := by intros; first | assumption | omega | (split <;> omega))
    (v15 : (x4 < I 159 ((20 * x1) + 9).toNat) → (0 < x4) → ((p_and (p_shr x2 (2 * (((I 159 ((20 * x1) + 9).toNat) - 1) - (x4 - 1)))) 3) ≠ 0) → -2147483648 ≤ x3 + 1 ∧ x3 + 1 ≤ 2147483647 := by intros; first | assumption | omega | (split <;> omega))
    (v16 : (x4 < I 159 ((20 * x1) + 9).toNat) → (0 < x4) → ((if ((p_and (p_shr x2 (2 * (((I 159 ((20 * x1) + 9).toNat) - 1) - x4))) 3) = 0) ∨ ((p_and (p_shr x2 (2 * (((I 159 ((20 * x1) + 9).toNat) - 1) - x4))) 3) = x3 + 1) then (1 : Int) else 0) = (if ((p_and (p_shr x2 (2 * (((I 159 ((20 * x1) + 9).toNat) - 1) - (x4 - 1)))) 3) = 0) ∨ ((p_and (p_shr x2 (2 * (((I 159 ((20 * x1) + 9).toNat) - 1) - (x4 - 1)))) 3) = x3 + 1) then (1 : Int) else 0)) → 0 ≤ x4 ∧ x4 < (7 : Nat) := by intros; first | assumption | omega | (split <;> omega))
    (v17 : (x4 < I 159 ((20 * x1) + 9).toNat) → (0 < x4) → ((if ((p_and (p_shr x2 (2 * (((I 159 ((20 * x1) + 9).toNat) - 1) - x4))) 3) = 0) ∨ ((p_and (p_shr x2 (2 * (((I 159 ((20 * x1) + 9).toNat) - 1) - x4))) 3) = x3 + 1) then (1 : Int) else 0) = (if ((p_and (p_shr x2 (2 * (((I 159 ((20 * x1) + 9).toNat) - 1) - (x4 - 1)))) 3) = 0) ∨ ((p_and (p_shr x2 (2 * (((I 159 ((20 * x1) + 9).toNat) - 1) - (x4 - 1)))) 3) = x3 + 1) then (1 : Int) else 0)) → -2147483648 ≤ x4 + 1 ∧ x4 + 1 ≤ 2147483647 := by intros; first | assumption | omega | (split <;> omega))
    (v18 : (x4 < I 159 ((20 * x1) + 9).toNat) → (0 < x4) → ((if ((p_and (p_shr x2 (2 * (((I 159 ((20 * x1) + 9).toNat) - 1) - x4))) 3) = 0) ∨ ((p_and (p_shr x2 (2 * (((I 159 ((20 * x1) + 9).toNat) - 1) - x4))) 3) = x3 + 1) then (1 : Int) else 0) ≠ (if ((p_and (p_shr x2 (2 * (((I 159 ((20 * x1) + 9).toNat) - 1) - (x4 - 1)))) 3) = 0) ∨ ((p_and (p_shr x2 (2 * (((I 159 ((20 * x1) + 9).toNat) - 1) - (x4 - 1)))) 3) = x3 + 1) then (1 : Int) else 0)) → -2147483648 ≤ I 156 37 + 1 ∧ I 156 37 + 1 ≤ 2147483647 := by intros; first | assumption | omega | (split <;> omega))
    (v19 : (x4 < I 159 ((20 * x1) + 9).toNat) → (0 < x4) → ((if ((p_and (p_shr x2 (2 * (((I 159 ((20 * x1) + 9).toNat) - 1) - x4))) 3) = 0) ∨ ((p_and (p_shr x2 (2 * (((I 159 ((20 * x1) + 9).toNat) - 1) - x4))) 3) = x3 + 1) then (1 : Int) else 0) ≠ (if ((p_and (p_shr x2 (2 * (((I 159 ((20 * x1) + 9).toNat) - 1) - (x4 - 1)))) 3) = 0) ∨ ((p_and (p_shr x2 (2 * (((I 159 ((20 * x1) + 9).toNat) - 1) - (x4 - 1)))) 3) = x3 + 1) then (1 : Int) else 0)) → 0 ≤ x4 ∧ x4 < (7 : Nat) := by intros; first | assumption | omega | (split <;> omega))
    (v20 : (x4 < I 159 ((20 * x1) + 9).toNat) → (0 < x4) → ((if ((p_and (p_shr x2 (2 * (((I 159 ((20 * x1) + 9).toNat) - 1) - x4))) 3) = 0) ∨ ((p_and (p_shr x2 (2 * (((I 159 ((20 * x1) + 9).toNat) - 1) - x4))) 3) = x3 + 1) then (1 : Int) else 0) ≠ (if ((p_and (p_shr x2 (2 * (((I 159 ((20 * x1) + 9).toNat) - 1) - (x4 - 1)))) 3) = 0) ∨ ((p_and (p_shr x2 (2 * (((I 159 ((20 * x1) + 9).toNat) - 1) - (x4 - 1)))) 3) = x3 + 1) then (1 : Int) else 0)) → -2147483648 ≤ x4 + 1 ∧ x4 + 1 ≤ 2147483647 := by intros; first | assumption | omega | (split <;> omega)) : L_X12_laysRuns_8 d 156 x1 x2 x3 x4 I S h1 :=
  
  b_X12_laysRuns_8  (c_X12_ring hl0 v1) (
  b_X12_laysRuns_15  (fun (c1 : I 159 ((20 * x1) + 9).toNat ≤ x4) => 
    b_X12_laysRuns_79 (v2 c1) (fun (c3 : (I 156 37 + 1) ≤ 1) => ev_retV (e1 c1 c3) (b_X12_laysRuns_165 )) (fun (c4 : 1 < (I 156 37 + 1)) => 
      b_X12_laysRuns_97  (c_X12_ring hl0 v1) (
      b_X12_laysRuns_105 (v3 c1 c4) (c_X12_colourAt hl0 v1 (v4 c1 c4) (v5 c1 c4)) (
      b_X12_laysRuns_110  (c_X12_isFirst (v6 c1 c4)) (
      b_X12_laysRuns_114  (fun c5' => have c5 : ¬(((p_and (p_shr x2 (2 * (((I 159 ((20 * x1) + 9).toNat) - 1) - ((I 159 ((20 * x1) + 9).toNat) - 1)))) 3) = 0) ∨ ((p_and (p_shr x2 (2 * (((I 159 ((20 * x1) + 9).toNat) - 1) - ((I 159 ((20 * x1) + 9).toNat) - 1)))) 3) = x3 + 1)) := b2f c5'; ev_retV (e2 c1 c4 c5) (b_X12_laysRuns_165 )) (fun c6' => have c6 : ((p_and (p_shr x2 (2 * (((I 159 ((20 * x1) + 9).toNat) - 1) - ((I 159 ((20 * x1) + 9).toNat) - 1)))) 3) = 0) ∨ ((p_and (p_shr x2 (2 * (((I 159 ((20 * x1) + 9).toNat) - 1) - ((I 159 ((20 * x1) + 9).toNat) - 1)))) 3) = x3 + 1) := b2t c6'; 
        b_X12_laysRuns_117 (v7 c1 c4 c6) ((k1 c1 c4 c6)))))))) (fun (c2 : x4 < I 159 ((20 * x1) + 9).toNat) => 
    b_X12_laysRuns_18  (fun (c7 : x4 ≤ 0) => 
      b_X12_laysRuns_62 (ly_X12_35 hl0) (v8 c2 c7) (v9 c2 c7) ((k2 c2 c7))) (fun (c8 : 0 < x4) => 
      b_X12_laysRuns_23  (c_X12_colourAt hl0 v1 (v10 c2 c8) (v11 c2 c8)) (
      b_X12_laysRuns_31  (c_X12_isFirst (v12 c2 c8)) (
      b_X12_laysRuns_35 (v13 c2 c8) (c_X12_colourAt hl0 v1 (v10 c2 c8) (v14 c2 c8)) (
      b_X12_laysRuns_45  (c_X12_isFirst (v15 c2 c8)) (
      b_X12_laysRuns_49  (fun (c9 : (if ((p_and (p_shr x2 (2 * (((I 159 ((20 * x1) + 9).toNat) - 1) - x4))) 3) = 0) ∨ ((p_and (p_shr x2 (2 * (((I 159 ((20 * x1) + 9).toNat) - 1) - x4))) 3) = x3 + 1) then (1 : Int) else 0) = (if ((p_and (p_shr x2 (2 * (((I 159 ((20 * x1) + 9).toNat) - 1) - (x4 - 1)))) 3) = 0) ∨ ((p_and (p_shr x2 (2 * (((I 159 ((20 * x1) + 9).toNat) - 1) - (x4 - 1)))) 3) = x3 + 1) then (1 : Int) else 0)) => 
        b_X12_laysRuns_62 (ly_X12_35 hl0) (v16 c2 c8 c9) (v17 c2 c8 c9) ((k3 c2 c8 c9))) (fun (c10 : (if ((p_and (p_shr x2 (2 * (((I 159 ((20 * x1) + 9).toNat) - 1) - x4))) 3) = 0) ∨ ((p_and (p_shr x2 (2 * (((I 159 ((20 * x1) + 9).toNat) - 1) - x4))) 3) = x3 + 1) then (1 : Int) else 0) ≠ (if ((p_and (p_shr x2 (2 * (((I 159 ((20 * x1) + 9).toNat) - 1) - (x4 - 1)))) 3) = 0) ∨ ((p_and (p_shr x2 (2 * (((I 159 ((20 * x1) + 9).toNat) - 1) - (x4 - 1)))) 3) = x3 + 1) then (1 : Int) else 0)) => 
        b_X12_laysRuns_52 (v18 c2 c8 c10) (
        b_X12_laysRuns_62 (ly_X12_35 hl0) (v19 c2 c8 c10) (v20 c2 c8 c10) ((k4 c2 c8 c10)))))))))))
theorem w_X12_laysRuns_130 {d : Nat} {I : Nat → Nat → Int} {S : PS} {x1 x2 x3 x4 : Int} {h1 : PM} (hl0 : LyX12 S)
    (k1 : (x4 < I 159 ((20 * x1) + 9).toNat) → L_X12_laysRuns_130 d 156 x1 x2 x3 (x4 + 1) (up2 I 175 (x4.toNat) ((I 175 x4.toNat) % (I 156 37))) S h1)
    (e1 : (I 159 ((20 * x1) + 9).toNat ≤ x4) → (I, S) = h1 := by intros; rfl)
    (v1 : 0 ≤ x1 ∧ x1 < 4 := by intros; first | assumption | omega | (split <;> omega))
    (v2 : (x4 < I 159 ((20 * x1) + 9).toNat) → 0 ≤ x4 ∧ x4 < (7 : Nat) := by intros; first | assumption | omega | (split <;> omega))
    (v3 : (x4 < I 159 ((20 * x1) + 9).toNat) → (0 ≤ I 175 x4.toNat ∧ I 175 x4.toNat ≤ 2147483647) ∧ 0 < I 156 37 ∧ I 156 37 ≤ 2147483647 := by intros; first | assumption | omega | (split <;> omega))
    (v4 : (x4 < I 159 ((20 * x1) + 9).toNat) → -2147483648 ≤ x4 + 1 ∧ x4 + 1 ≤ 2147483647 := by intros; first | assumption | omega | (split <;> omega)) : L_X12_laysRuns_130 d 156 x1 x2 x3 x4 I S h1 :=
  
  b_X12_laysRuns_130  (c_X12_ring hl0 v1) (
  b_X12_laysRuns_137  (fun (c1 : I 159 ((20 * x1) + 9).toNat ≤ x4) => ev_retV (e1 c1) (b_X12_laysRuns_165 )) (fun (c2 : x4 < I 159 ((20 * x1) + 9).toNat) => 
    b_X12_laysRuns_140 (ly_X12_35 hl0) (v2 c2) (v3 c2) (v2 c2) (v4 c2) ((k1 c2))))
end
