noncomputable section
theorem c_X2_clear {d : Nat} {I : Nat → Nat → Int} {S : PS} {a0 : Nat} (hl0 : LyX2 S a0) : Ca (d + 1) mX2_clear [vR (some (13, 0, a0))] (I, S) (.inl none) ((up1 I (a0 + 1) (upTo (I (a0 + 1)) (fun _ => 0) 0 4)), S) :=
  Ca.of rfl rfl (
  b_X2_clear_0 (ly_X2_0 hl0) (c_J7_fill_53178 (by decide)) (ev_retV rfl (b_X2_clear_8 )))
theorem c_X11_sends {d : Nat} {I : Nat → Nat → Int} {S : PS} {x1 x2 x3 x4 : Int} {T U : Nat} (hl0 : LyX11 S T U)
    (v1 : ((3 ≤ x1) ∧ (x1 ≤ 9)) → ((3 ≤ x2) ∧ (x2 ≤ 9)) → ((3 ≤ x3) ∧ (x3 ≤ 9)) → ((3 ≤ x4) ∧ (x4 ≤ 9)) → 0 ≤ I (T + 2) 0 ∧ I (T + 2) 0 ≤ 6)
    (v2 : ((3 ≤ x1) ∧ (x1 ≤ 9)) → ((3 ≤ x2) ∧ (x2 ≤ 9)) → ((3 ≤ x3) ∧ (x3 ≤ 9)) → ((3 ≤ x4) ∧ (x4 ≤ 9)) → ∀ k : Nat, (k : Int) < I (T + 2) 0 → 0 ≤ I 129 k ∧ I 129 k ≤ 99)
    (hP : ((3 ≤ x1) ∧ (x1 ≤ 9)) ∧ (((3 ≤ x2) ∧ (x2 ≤ 9)) ∧ (((3 ≤ x3) ∧ (x3 ≤ 9)) ∧ ((3 ≤ x4) ∧ (x4 ≤ 9))))) : Ca (d + 3) mX11_sends [vR (some (21, 0, 31)), vI x1, vI x2, vI x3, vI x4] (I, S) (.inl (some (vI (snC I (T + 2) 129 x1 x2 x3 x4 (I (T + 2) 0).toNat)))) (I, S) :=
  Ca.of rfl rfl (
  b_X11_sends_0  c_X11_isDegree (
  b_X11_sends_4  (fun c1' => have c1 : ¬((3 ≤ x1) ∧ (x1 ≤ 9)) := b2f c1'; absurd hP (fun q => c1 q.1)) (fun c2' => have c2 : (3 ≤ x1) ∧ (x1 ≤ 9) := b2t c2'; 
    b_X11_sends_7  c_X11_isDegree (
    b_X11_sends_11  (fun c3' => have c3 : ¬((3 ≤ x2) ∧ (x2 ≤ 9)) := b2f c3'; absurd hP (fun q => (fun q => c3 q.1) q.2)) (fun c4' => have c4 : (3 ≤ x2) ∧ (x2 ≤ 9) := b2t c4'; 
      b_X11_sends_14  c_X11_isDegree (
      b_X11_sends_18  (fun c5' => have c5 : ¬((3 ≤ x3) ∧ (x3 ≤ 9)) := b2f c5'; absurd hP (fun q => (fun q => (fun q => c5 q.1) q.2) q.2)) (fun c6' => have c6 : (3 ≤ x3) ∧ (x3 ≤ 9) := b2t c6'; 
        b_X11_sends_21  c_X11_isDegree (
        b_X11_sends_26  (fun c7' => have c7 : (3 ≤ x4) ∧ (x4 ≤ 9) := b2t c7'; 
          b_X11_sends_37 (ly_X11_2 hl0) (ly_X0_2 (ly_X11_c hl0)) (ly_X11_6 hl0) (ly_X9_1 (ly_X11_s hl0)) (c_X7_sent (ly_X0_r (ly_X11_c hl0)) (by first | decide | exact (show 6 = 6 from by decide)) (v1 c2 c4 c6 c7) (v2 c2 c4 c6 c7)) (ev_eqr rfl (b_X11_sends_59 ))) (fun c8' => have c8 : ¬((3 ≤ x4) ∧ (x4 ≤ 9)) := b2f c8'; absurd hP (fun q => (fun q => (fun q => c8 q.2) q.2) q.2))))))))))
theorem c_X11_sends_t {d : Nat} {I : Nat → Nat → Int} {S : PS} {x1 x2 x3 x4 : Int} {T U : Nat} (hl0 : LyX11 S T U)
    (v1 : ((3 ≤ x1) ∧ (x1 ≤ 9)) → ((3 ≤ x2) ∧ (x2 ≤ 9)) → ((3 ≤ x3) ∧ (x3 ≤ 9)) → ((3 ≤ x4) ∧ (x4 ≤ 9)) → 0 ≤ I (T + 2) 0 ∧ I (T + 2) 0 ≤ 6)
    (v2 : ((3 ≤ x1) ∧ (x1 ≤ 9)) → ((3 ≤ x2) ∧ (x2 ≤ 9)) → ((3 ≤ x3) ∧ (x3 ≤ 9)) → ((3 ≤ x4) ∧ (x4 ≤ 9)) → ∀ k : Nat, (k : Int) < I (T + 2) 0 → 0 ≤ I 129 k ∧ I 129 k ≤ 99)
    (hP : ¬(((3 ≤ x1) ∧ (x1 ≤ 9)) ∧ (((3 ≤ x2) ∧ (x2 ≤ 9)) ∧ (((3 ≤ x3) ∧ (x3 ≤ 9)) ∧ ((3 ≤ x4) ∧ (x4 ≤ 9)))))) : Ca (d + 3) mX11_sends [vR (some (21, 0, 31)), vI x1, vI x2, vI x3, vI x4] (I, S) (.inr 0) (I, (exS S)) :=
  Ca.of rfl rfl (
  b_X11_sends_0  c_X11_isDegree (
  b_X11_sends_4  (fun c1' => have c1 : ¬((3 ≤ x1) ∧ (x1 ≤ 9)) := b2f c1'; ev_eqr rfl (b_X11_sends_29 )) (fun c2' => have c2 : (3 ≤ x1) ∧ (x1 ≤ 9) := b2t c2'; 
    b_X11_sends_7  c_X11_isDegree (
    b_X11_sends_11  (fun c3' => have c3 : ¬((3 ≤ x2) ∧ (x2 ≤ 9)) := b2f c3'; ev_eqr rfl (b_X11_sends_29 )) (fun c4' => have c4 : (3 ≤ x2) ∧ (x2 ≤ 9) := b2t c4'; 
      b_X11_sends_14  c_X11_isDegree (
      b_X11_sends_18  (fun c5' => have c5 : ¬((3 ≤ x3) ∧ (x3 ≤ 9)) := b2f c5'; ev_eqr rfl (b_X11_sends_29 )) (fun c6' => have c6 : (3 ≤ x3) ∧ (x3 ≤ 9) := b2t c6'; 
        b_X11_sends_21  c_X11_isDegree (
        b_X11_sends_26  (fun c7' => have c7 : (3 ≤ x4) ∧ (x4 ≤ 9) := b2t c7'; 
          b_X11_sends_37 (ly_X11_2 hl0) (ly_X0_2 (ly_X11_c hl0)) (ly_X11_6 hl0) (ly_X9_1 (ly_X11_s hl0)) (c_X7_sent (ly_X0_r (ly_X11_c hl0)) (by first | decide | exact (show 6 = 6 from by decide)) (v1 c2 c4 c6 c7) (v2 c2 c4 c6 c7)) (absurd (⟨c2, ⟨c4, ⟨c6, c7⟩⟩⟩) hP)) (fun c8' => have c8 : ¬((3 ≤ x4) ∧ (x4 ≤ 9)) := b2f c8'; ev_eqr rfl (b_X11_sends_29 ))))))))))
theorem c_X12_sends {d : Nat} {I : Nat → Nat → Int} {S : PS} {x1 x2 x3 x4 : Int} (hl0 : LyX12 S)
    (v1 : ((((3 ≤ x1) ∧ (x1 ≤ 9)) ∧ (((3 ≤ x2) ∧ (x2 ≤ 9)) ∧ (((3 ≤ x3) ∧ (x3 ≤ 9)) ∧ ((3 ≤ x4) ∧ (x4 ≤ 9)))))) → 0 ≤ (I 156 14) ∧ (I 156 14) ≤ 6)
    (v2 : ((((3 ≤ x1) ∧ (x1 ≤ 9)) ∧ (((3 ≤ x2) ∧ (x2 ≤ 9)) ∧ (((3 ≤ x3) ∧ (x3 ≤ 9)) ∧ ((3 ≤ x4) ∧ (x4 ≤ 9)))))) → ∀ k : Nat, (k : Int) < (I 156 14) → 0 ≤ I 178 ((0 : Int) + 12 + (k : Int)).toNat ∧ I 178 ((0 : Int) + 12 + (k : Int)).toNat ≤ 99) : Ca (d + 3) mX12_sends [vR (some (22, 0, 156)), vI x1, vI x2, vI x3, vI x4] (I, S) (.inl (some (vI (if (((3 ≤ x1) ∧ (x1 ≤ 9)) ∧ (((3 ≤ x2) ∧ (x2 ≤ 9)) ∧ (((3 ≤ x3) ∧ (x3 ≤ 9)) ∧ ((3 ≤ x4) ∧ (x4 ≤ 9))))) then ((snM (up2 I 156 0 0) 0 x1 x2 x3 x4 ((I 156 14)).toNat) : Int) else 0)))) ((if (((3 ≤ x1) ∧ (x1 ≤ 9)) ∧ (((3 ≤ x2) ∧ (x2 ≤ 9)) ∧ (((3 ≤ x3) ∧ (x3 ≤ 9)) ∧ ((3 ≤ x4) ∧ (x4 ≤ 9))))) then (up2 I 156 0 0) else (up2 (up2 I 156 0 0) 156 0 1)), S) :=
  Ca.of rfl rfl (
  b_X12_sends_0  c_X12_within (
  have K8 : ∀ us1 : Int, us1 = (if ((3 ≤ x1) ∧ (x1 ≤ 9)) ∧ (((3 ≤ x2) ∧ (x2 ≤ 9)) ∧ (((3 ≤ x3) ∧ (x3 ≤ 9)) ∧ ((3 ≤ x4) ∧ (x4 ≤ 9)))) then (1 : Int) else 0) → Ev (d + 3) mX12_sends (52, [some (vR (some (22, 0, 156))), some (vI x1), some (vI x2), some (vI x3), some (vI x4)], [vI us1, vR (some (22, 0, 156))], ((up2 I 156 0 0), S)) ((.inl (some (vI (if (((3 ≤ x1) ∧ (x1 ≤ 9)) ∧ (((3 ≤ x2) ∧ (x2 ≤ 9)) ∧ (((3 ≤ x3) ∧ (x3 ≤ 9)) ∧ ((3 ≤ x4) ∧ (x4 ≤ 9))))) then ((snM (up2 I 156 0 0) 0 x1 x2 x3 x4 ((I 156 14)).toNat) : Int) else 0)))), ((if (((3 ≤ x1) ∧ (x1 ≤ 9)) ∧ (((3 ≤ x2) ∧ (x2 ≤ 9)) ∧ (((3 ≤ x3) ∧ (x3 ≤ 9)) ∧ ((3 ≤ x4) ∧ (x4 ≤ 9))))) then (up2 I 156 0 0) else (up2 (up2 I 156 0 0) 156 0 1)), S)) := fun us1 e_us1 => by subst e_us1; exact (
    (Classical.em ((((3 ≤ x1) ∧ (x1 ≤ 9)) ∧ (((3 ≤ x2) ∧ (x2 ≤ 9)) ∧ (((3 ≤ x3) ∧ (x3 ≤ 9)) ∧ ((3 ≤ x4) ∧ (x4 ≤ 9))))))).elim (fun c10 => 
      b_X12_sends_52  (c_X12_right_y (b1 := ((3 ≤ x1) ∧ (x1 ≤ 9)) ∧ (((3 ≤ x2) ∧ (x2 ≤ 9)) ∧ (((3 ≤ x3) ∧ (x3 ≤ 9)) ∧ ((3 ≤ x4) ∧ (x4 ≤ 9))))) hl0 (by first | decide | exact (show 0 = 0 from by decide)) (by first | decide | exact (show (1 : Int) ≠ 0 from by decide)) c10) (
      b_X12_sends_56  (fun _ => 
        b_X12_sends_61  (c_X12_sends0 hl0 (by first | decide | exact (show (0 : Int) = 0 ∨ (0 : Int) = 18 from by decide)) (v1 c10) (v2 c10)) (ev_ret2 ((if_pos c10).symm) (prEq ((if_pos c10).symm) rfl) (b_X12_sends_71 ))) (fun c => absurd c (by decide)))) (fun c11 => 
      b_X12_sends_52  (c_X12_right_n (b1 := ((3 ≤ x1) ∧ (x1 ≤ 9)) ∧ (((3 ≤ x2) ∧ (x2 ≤ 9)) ∧ (((3 ≤ x3) ∧ (x3 ≤ 9)) ∧ ((3 ≤ x4) ∧ (x4 ≤ 9))))) hl0 (by first | decide | exact (show 0 = 0 from by decide)) (by first | decide | exact (show (1 : Int) ≠ 0 from by decide)) c11) (
      b_X12_sends_56  (fun c => absurd c (by decide)) (fun _ => ev_ret2 ((if_neg (fun q => c11 q)).symm) (prEq ((if_neg (fun q => c11 q)).symm) rfl) (b_X12_sends_59 )))))
  
  b_X12_sends_13  (fun c1' => have c1 : ¬((3 ≤ x1) ∧ (x1 ≤ 9)) := b2f c1'; 
    b_X12_sends_51  (K8 0 (if_neg (fun q => c1 q.1)).symm)) (fun c2' => have c2 : (3 ≤ x1) ∧ (x1 ≤ 9) := b2t c2'; 
    b_X12_sends_16  c_X12_within (
    b_X12_sends_23  (fun c3' => have c3 : ¬((3 ≤ x2) ∧ (x2 ≤ 9)) := b2f c3'; 
      b_X12_sends_51  (K8 0 (if_neg (fun q => (fun q => c3 q.1) q.2)).symm)) (fun c4' => have c4 : (3 ≤ x2) ∧ (x2 ≤ 9) := b2t c4'; 
      b_X12_sends_26  c_X12_within (
      b_X12_sends_33  (fun c5' => have c5 : ¬((3 ≤ x3) ∧ (x3 ≤ 9)) := b2f c5'; 
        b_X12_sends_51  (K8 0 (if_neg (fun q => (fun q => (fun q => c5 q.1) q.2) q.2)).symm)) (fun c6' => have c6 : (3 ≤ x3) ∧ (x3 ≤ 9) := b2t c6'; 
        b_X12_sends_36  c_X12_within (
        b_X12_sends_44  (fun c7' => have c7 : ¬((3 ≤ x4) ∧ (x4 ≤ 9)) := b2f c7'; 
          b_X12_sends_51  (K8 0 (if_neg (fun q => (fun q => (fun q => c7 q.2) q.2) q.2)).symm)) (fun c8' => have c8 : (3 ≤ x4) ∧ (x4 ≤ 9) := b2t c8'; 
          b_X12_sends_47  (K8 1 (if_pos ⟨c2, ⟨c4, ⟨c6, c8⟩⟩⟩).symm))))))))))
theorem c_X12_isFree {d : Nat} {I : Nat → Nat → Int} {S : PS} {x1 x2 x3 : Int} (hl0 : LyX12 S)
    (v1 : ((0 ≤ x3) ∧ (x3 ≤ 3)) → x1 = 0 ∨ x1 = 18)
    (v2 : ((0 ≤ x3) ∧ (x3 ≤ 3)) → 0 ≤ x2 ∧ x2 < 12)
    (v3 : ((0 ≤ x3) ∧ (x3 ≤ 3)) → 0 ≤ I 161 (10 * x2).toNat ∧ I 161 (10 * x2).toNat ≤ 9)
    (v4 : ((0 ≤ x3) ∧ (x3 ≤ 3)) → ∀ k : Nat, (k : Int) < I 161 (10 * x2).toNat → 0 ≤ I 161 (((10 * x2) + 1) + (k : Int)).toNat ∧ I 161 (((10 * x2) + 1) + (k : Int)).toNat < 12) : Ca (d + 2) mX12_isFree [vR (some (22, 0, 156)), vI x1, vI x2, vI x3] (I, S) (.inl (some (vI (if ((0 ≤ x3) ∧ (x3 ≤ 3)) ∧ (p_and (p_shr (frF I x1 x2 (I 161 (10 * x2).toNat).toNat) x3) 1 = 1) then (1 : Int) else 0)))) (I, S) :=
  Ca.of rfl rfl (
  b_X12_isFree_0  c_X12_within (
  have K4 : ∀ us0 : Int, us0 = (if ((0 ≤ x3) ∧ (x3 ≤ 3)) ∧ (p_and (p_shr (frF I x1 x2 (I 161 (10 * x2).toNat).toNat) x3) 1 = 1) then (1 : Int) else 0) → Ev (d + 2) mX12_isFree (28, [some (vR (some (22, 0, 156))), some (vI x1), some (vI x2), some (vI x3)], [vI us0], (I, S)) ((.inl (some (vI (if ((0 ≤ x3) ∧ (x3 ≤ 3)) ∧ (p_and (p_shr (frF I x1 x2 (I 161 (10 * x2).toNat).toNat) x3) 1 = 1) then (1 : Int) else 0)))), (I, S)) := fun us0 e_us0 => by subst e_us0; exact (ev_ret2 rfl rfl (b_X12_isFree_28 (ite01 _)))
  
  b_X12_isFree_6  (fun c1' => have c1 : ¬((0 ≤ x3) ∧ (x3 ≤ 3)) := b2f c1'; 
    b_X12_isFree_27  (K4 0 (if_neg (fun q => c1 q.1)).symm)) (fun c2' => have c2 : (0 ≤ x3) ∧ (x3 ≤ 3) := b2t c2'; 
    b_X12_isFree_9  (c_X12_freeFor hl0 (v1 c2) (v2 c2) (v3 c2) (v4 c2)) (
    b_X12_isFree_15  (fun (c3 : p_and (p_shr (frF I x1 x2 (I 161 (10 * x2).toNat).toNat) x3) 1 ≠ 1) => 
      b_X12_isFree_27  (K4 0 (if_neg (fun q => c3 q.2)).symm)) (fun (c4 : p_and (p_shr (frF I x1 x2 (I 161 (10 * x2).toNat).toNat) x3) 1 = 1) => 
      b_X12_isFree_23  (K4 1 (if_pos ⟨c2, c4⟩).symm))))))
theorem c_X12_canPaint {d : Nat} {I : Nat → Nat → Int} {S : PS} {x1 x2 x3 : Int} (hl0 : LyX12 S)
    (v1 : -2147483648 ≤ x1 + x2 ∧ x1 + x2 ≤ 2147483647)
    (v2 : 0 ≤ x1 + x2 ∧ x1 + x2 < (36 : Nat))
    (v3 : (I 178 (x1 + x2).toNat = (-1)) → ((0 ≤ x3) ∧ (x3 ≤ 3)) → x1 = 0 ∨ x1 = 18)
    (v4 : (I 178 (x1 + x2).toNat = (-1)) → ((0 ≤ x3) ∧ (x3 ≤ 3)) → 0 ≤ x2 ∧ x2 < 12)
    (v5 : (I 178 (x1 + x2).toNat = (-1)) → ((0 ≤ x3) ∧ (x3 ≤ 3)) → 0 ≤ I 161 (10 * x2).toNat ∧ I 161 (10 * x2).toNat ≤ 9)
    (v6 : (I 178 (x1 + x2).toNat = (-1)) → ((0 ≤ x3) ∧ (x3 ≤ 3)) → ∀ k : Nat, (k : Int) < I 161 (10 * x2).toNat → 0 ≤ I 161 (((10 * x2) + 1) + (k : Int)).toNat ∧ I 161 (((10 * x2) + 1) + (k : Int)).toNat < 12) : Ca (d + 3) mX12_canPaint [vR (some (22, 0, 156)), vI x1, vI x2, vI x3] (I, S) (.inl (some (vI (if (I 178 (x1 + x2).toNat = (-1)) ∧ (((0 ≤ x3) ∧ (x3 ≤ 3)) ∧ (p_and (p_shr (frF I x1 x2 (I 161 (10 * x2).toNat).toNat) x3) 1 = 1)) then (1 : Int) else 0)))) (I, S) :=
  Ca.of rfl rfl (
  have K4 : ∀ us0 : Int, us0 = (if (I 178 (x1 + x2).toNat = (-1)) ∧ (((0 ≤ x3) ∧ (x3 ≤ 3)) ∧ (p_and (p_shr (frF I x1 x2 (I 161 (10 * x2).toNat).toNat) x3) 1 = 1)) then (1 : Int) else 0) → Ev (d + 3) mX12_canPaint (27, [some (vR (some (22, 0, 156))), some (vI x1), some (vI x2), some (vI x3)], [vI us0], (I, S)) ((.inl (some (vI (if (I 178 (x1 + x2).toNat = (-1)) ∧ (((0 ≤ x3) ∧ (x3 ≤ 3)) ∧ (p_and (p_shr (frF I x1 x2 (I 161 (10 * x2).toNat).toNat) x3) 1 = 1)) then (1 : Int) else 0)))), (I, S)) := fun us0 e_us0 => by subst e_us0; exact (ev_ret2 rfl rfl (b_X12_canPaint_27 (ite01 _)))
  
  b_X12_canPaint_0 (ly_X12_39 hl0) v1 v2 (fun (c1 : I 178 (x1 + x2).toNat ≠ (-1)) => 
    b_X12_canPaint_26  (K4 0 (if_neg (fun q => c1 q.1)).symm)) (fun (c2 : I 178 (x1 + x2).toNat = (-1)) => 
    b_X12_canPaint_12  (c_X12_isFree hl0 (v3 c2) (v4 c2) (v5 c2) (v6 c2)) (
    b_X12_canPaint_19  (fun c3' => have c3 : ¬(((0 ≤ x3) ∧ (x3 ≤ 3)) ∧ (p_and (p_shr (frF I x1 x2 (I 161 (10 * x2).toNat).toNat) x3) 1 = 1)) := b2f c3'; 
      b_X12_canPaint_26  (K4 0 (if_neg (fun q => c3 q.2)).symm)) (fun c4' => have c4 : ((0 ≤ x3) ∧ (x3 ≤ 3)) ∧ (p_and (p_shr (frF I x1 x2 (I 161 (10 * x2).toNat).toNat) x3) 1 = 1) := b2t c4'; 
      b_X12_canPaint_22  (K4 1 (if_pos ⟨c2, c4⟩).symm)))))
end
