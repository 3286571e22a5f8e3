noncomputable section
theorem c_X0_clear {d : Nat} {I : Nat → Nat → Int} {S : PS} {a0 : Nat} (hl0 : LyX0 S a0) : Ca d mX0_clear [vR (some (11, 0, a0))] (I, S) (.inl none) ((up2 (up2 (up2 I a0 1 0) (a0 + 2) 0 0) a0 6 0), S) :=
  Ca.of rfl rfl (ev_retV rfl (b_X0_clear_0 (ly_X0_2 hl0)))
theorem c_X0_keepPiece {d : Nat} {I : Nat → Nat → Int} {S : PS} {a0 : Nat} (hl0 : LyX0 S a0)
    (v1 : -2147483648 ≤ I a0 1 + 1 ∧ I a0 1 + 1 ≤ 2147483647) : Ca d mX0_keepPiece [vR (some (11, 0, a0))] (I, S) (.inl (some (vI 0))) ((up2 I a0 1 (I a0 1 + 1)), S) :=
  Ca.of rfl rfl (ev_ret2 rfl rfl (b_X0_keepPiece_0 v1))
theorem c_X0_keepSpot {d : Nat} {I : Nat → Nat → Int} {S : PS} {a0 : Nat} (hl0 : LyX0 S a0)
    (v1 : -2147483648 ≤ I a0 6 + 1 ∧ I a0 6 + 1 ≤ 2147483647) : Ca d mX0_keepSpot [vR (some (11, 0, a0))] (I, S) (.inl (some (vI 0))) ((up2 I a0 6 (I a0 6 + 1)), S) :=
  Ca.of rfl rfl (ev_ret2 rfl rfl (b_X0_keepSpot_0 v1))
theorem c_X0_beginSpot {d : Nat} {I : Nat → Nat → Int} {S : PS} {a0 : Nat} (hl0 : LyX0 S a0)
    (v1 : 0 ≤ I a0 6 ∧ I a0 6 < (12 : Nat))
    (v2 : 0 ≤ (up2 I (a0 + 4) ((I a0 6).toNat) 0) a0 6 ∧ (up2 I (a0 + 4) ((I a0 6).toNat) 0) a0 6 < (12 : Nat)) : Ca d mX0_beginSpot [vR (some (11, 0, a0))] (I, S) (.inl none) ((up2 (up2 I (a0 + 4) ((I a0 6).toNat) 0) (a0 + 5) (((up2 I (a0 + 4) ((I a0 6).toNat) 0) a0 6).toNat) 0), S) :=
  Ca.of rfl rfl (ev_retV rfl (b_X0_beginSpot_0 (ly_X0_3 hl0) v1 (ly_X0_4 hl0) v2))
theorem c_X0_addNeighbour_y {d : Nat} {I : Nat → Nat → Int} {S : PS} {a0 : Nat} {x1 : Int} (hl0 : LyX0 S a0)
    (v1 : 0 ≤ I a0 6 ∧ I a0 6 < (12 : Nat))
    (v2 : (x1 ≠ I a0 6) → (p_and (p_shr (I (a0 + 5) (I a0 6).toNat) x1) 1 = 0) → (I (a0 + 4) (I a0 6).toNat < 9) → -2147483648 ≤ (I a0 6) * 9 ∧ (I a0 6) * 9 ≤ 2147483647)
    (v3 : (x1 ≠ I a0 6) → (p_and (p_shr (I (a0 + 5) (I a0 6).toNat) x1) 1 = 0) → (I (a0 + 4) (I a0 6).toNat < 9) → -2147483648 ≤ ((I a0 6) * 9) + (I (a0 + 4) (I a0 6).toNat) ∧ ((I a0 6) * 9) + (I (a0 + 4) (I a0 6).toNat) ≤ 2147483647)
    (v4 : (x1 ≠ I a0 6) → (p_and (p_shr (I (a0 + 5) (I a0 6).toNat) x1) 1 = 0) → (I (a0 + 4) (I a0 6).toNat < 9) → 0 ≤ ((I a0 6) * 9) + (I (a0 + 4) (I a0 6).toNat) ∧ ((I a0 6) * 9) + (I (a0 + 4) (I a0 6).toNat) < (108 : Nat))
    (v5 : (x1 ≠ I a0 6) → (p_and (p_shr (I (a0 + 5) (I a0 6).toNat) x1) 1 = 0) → (I (a0 + 4) (I a0 6).toNat < 9) → 0 ≤ (up2 I (a0 + 6) ((((I a0 6) * 9) + (I (a0 + 4) (I a0 6).toNat)).toNat) x1) a0 6 ∧ (up2 I (a0 + 6) ((((I a0 6) * 9) + (I (a0 + 4) (I a0 6).toNat)).toNat) x1) a0 6 < (12 : Nat))
    (v6 : (x1 ≠ I a0 6) → (p_and (p_shr (I (a0 + 5) (I a0 6).toNat) x1) 1 = 0) → (I (a0 + 4) (I a0 6).toNat < 9) → -2147483648 ≤ (I (a0 + 4) (I a0 6).toNat) + 1 ∧ (I (a0 + 4) (I a0 6).toNat) + 1 ≤ 2147483647)
    (v7 : (x1 ≠ I a0 6) → (p_and (p_shr (I (a0 + 5) (I a0 6).toNat) x1) 1 = 0) → (I (a0 + 4) (I a0 6).toNat < 9) → 0 ≤ (up2 (up2 I (a0 + 6) ((((I a0 6) * 9) + (I (a0 + 4) (I a0 6).toNat)).toNat) x1) (a0 + 5) (((up2 I (a0 + 6) ((((I a0 6) * 9) + (I (a0 + 4) (I a0 6).toNat)).toNat) x1) a0 6).toNat) (p_or ((up2 I (a0 + 6) ((((I a0 6) * 9) + (I (a0 + 4) (I a0 6).toNat)).toNat) x1) (a0 + 5) ((up2 I (a0 + 6) ((((I a0 6) * 9) + (I (a0 + 4) (I a0 6).toNat)).toNat) x1) a0 6).toNat) (p_shl 1 x1))) a0 6 ∧ (up2 (up2 I (a0 + 6) ((((I a0 6) * 9) + (I (a0 + 4) (I a0 6).toNat)).toNat) x1) (a0 + 5) (((up2 I (a0 + 6) ((((I a0 6) * 9) + (I (a0 + 4) (I a0 6).toNat)).toNat) x1) a0 6).toNat) (p_or ((up2 I (a0 + 6) ((((I a0 6) * 9) + (I (a0 + 4) (I a0 6).toNat)).toNat) x1) (a0 + 5) ((up2 I (a0 + 6) ((((I a0 6) * 9) + (I (a0 + 4) (I a0 6).toNat)).toNat) x1) a0 6).toNat) (p_shl 1 x1))) a0 6 < (12 : Nat))
    (hP : (x1 ≠ I a0 6) ∧ ((p_and (p_shr (I (a0 + 5) (I a0 6).toNat) x1) 1 = 0) ∧ (I (a0 + 4) (I a0 6).toNat < 9))) : Ca d mX0_addNeighbour [vR (some (11, 0, a0)), vI x1] (I, S) (.inl (some (vI 1))) ((up2 (up2 (up2 I (a0 + 6) ((((I a0 6) * 9) + (I (a0 + 4) (I a0 6).toNat)).toNat) x1) (a0 + 5) (((up2 I (a0 + 6) ((((I a0 6) * 9) + (I (a0 + 4) (I a0 6).toNat)).toNat) x1) a0 6).toNat) (p_or ((up2 I (a0 + 6) ((((I a0 6) * 9) + (I (a0 + 4) (I a0 6).toNat)).toNat) x1) (a0 + 5) ((up2 I (a0 + 6) ((((I a0 6) * 9) + (I (a0 + 4) (I a0 6).toNat)).toNat) x1) a0 6).toNat) (p_shl 1 x1))) (a0 + 4) (((up2 (up2 I (a0 + 6) ((((I a0 6) * 9) + (I (a0 + 4) (I a0 6).toNat)).toNat) x1) (a0 + 5) (((up2 I (a0 + 6) ((((I a0 6) * 9) + (I (a0 + 4) (I a0 6).toNat)).toNat) x1) a0 6).toNat) (p_or ((up2 I (a0 + 6) ((((I a0 6) * 9) + (I (a0 + 4) (I a0 6).toNat)).toNat) x1) (a0 + 5) ((up2 I (a0 + 6) ((((I a0 6) * 9) + (I (a0 + 4) (I a0 6).toNat)).toNat) x1) a0 6).toNat) (p_shl 1 x1))) a0 6).toNat) ((I (a0 + 4) (I a0 6).toNat) + 1)), S) :=
  Ca.of rfl rfl (
  b_X0_addNeighbour_0 (ly_X0_3 hl0) v1 (fun (c1 : x1 = I a0 6) => absurd hP (fun q => (fun q => q c1) q.1)) (fun (c2 : x1 ≠ I a0 6) => 
    b_X0_addNeighbour_18 (ly_X0_4 hl0) v1 (fun (c3 : p_and (p_shr (I (a0 + 5) (I a0 6).toNat) x1) 1 ≠ 0) => absurd hP (fun q => (fun q => c3 q.1) q.2)) (fun (c4 : p_and (p_shr (I (a0 + 5) (I a0 6).toNat) x1) 1 = 0) => 
      b_X0_addNeighbour_34  (fun (c5 : I (a0 + 4) (I a0 6).toNat < 9) => ev_ret2 rfl rfl (b_X0_addNeighbour_42 (ly_X0_5 hl0) (v2 c2 c4 c5) (v3 c2 c4 c5) (v4 c2 c4 c5) (ly_X0_4 hl0) (v5 c2 c4 c5) (v5 c2 c4 c5) (ly_X0_3 hl0) (v6 c2 c4 c5) (v7 c2 c4 c5))) (fun (c6 : 9 ≤ I (a0 + 4) (I a0 6).toNat) => absurd hP (fun q => (fun q => (Int.not_lt.mpr c6) q.2) q.2)))))
theorem c_X0_addNeighbour_n {d : Nat} {I : Nat → Nat → Int} {S : PS} {a0 : Nat} {x1 : Int} (hl0 : LyX0 S a0)
    (v1 : 0 ≤ I a0 6 ∧ I a0 6 < (12 : Nat))
    (v2 : (x1 ≠ I a0 6) → (p_and (p_shr (I (a0 + 5) (I a0 6).toNat) x1) 1 = 0) → (I (a0 + 4) (I a0 6).toNat < 9) → -2147483648 ≤ (I a0 6) * 9 ∧ (I a0 6) * 9 ≤ 2147483647)
    (v3 : (x1 ≠ I a0 6) → (p_and (p_shr (I (a0 + 5) (I a0 6).toNat) x1) 1 = 0) → (I (a0 + 4) (I a0 6).toNat < 9) → -2147483648 ≤ ((I a0 6) * 9) + (I (a0 + 4) (I a0 6).toNat) ∧ ((I a0 6) * 9) + (I (a0 + 4) (I a0 6).toNat) ≤ 2147483647)
    (v4 : (x1 ≠ I a0 6) → (p_and (p_shr (I (a0 + 5) (I a0 6).toNat) x1) 1 = 0) → (I (a0 + 4) (I a0 6).toNat < 9) → 0 ≤ ((I a0 6) * 9) + (I (a0 + 4) (I a0 6).toNat) ∧ ((I a0 6) * 9) + (I (a0 + 4) (I a0 6).toNat) < (108 : Nat))
    (v5 : (x1 ≠ I a0 6) → (p_and (p_shr (I (a0 + 5) (I a0 6).toNat) x1) 1 = 0) → (I (a0 + 4) (I a0 6).toNat < 9) → 0 ≤ (up2 I (a0 + 6) ((((I a0 6) * 9) + (I (a0 + 4) (I a0 6).toNat)).toNat) x1) a0 6 ∧ (up2 I (a0 + 6) ((((I a0 6) * 9) + (I (a0 + 4) (I a0 6).toNat)).toNat) x1) a0 6 < (12 : Nat))
    (v6 : (x1 ≠ I a0 6) → (p_and (p_shr (I (a0 + 5) (I a0 6).toNat) x1) 1 = 0) → (I (a0 + 4) (I a0 6).toNat < 9) → -2147483648 ≤ (I (a0 + 4) (I a0 6).toNat) + 1 ∧ (I (a0 + 4) (I a0 6).toNat) + 1 ≤ 2147483647)
    (v7 : (x1 ≠ I a0 6) → (p_and (p_shr (I (a0 + 5) (I a0 6).toNat) x1) 1 = 0) → (I (a0 + 4) (I a0 6).toNat < 9) → 0 ≤ (up2 (up2 I (a0 + 6) ((((I a0 6) * 9) + (I (a0 + 4) (I a0 6).toNat)).toNat) x1) (a0 + 5) (((up2 I (a0 + 6) ((((I a0 6) * 9) + (I (a0 + 4) (I a0 6).toNat)).toNat) x1) a0 6).toNat) (p_or ((up2 I (a0 + 6) ((((I a0 6) * 9) + (I (a0 + 4) (I a0 6).toNat)).toNat) x1) (a0 + 5) ((up2 I (a0 + 6) ((((I a0 6) * 9) + (I (a0 + 4) (I a0 6).toNat)).toNat) x1) a0 6).toNat) (p_shl 1 x1))) a0 6 ∧ (up2 (up2 I (a0 + 6) ((((I a0 6) * 9) + (I (a0 + 4) (I a0 6).toNat)).toNat) x1) (a0 + 5) (((up2 I (a0 + 6) ((((I a0 6) * 9) + (I (a0 + 4) (I a0 6).toNat)).toNat) x1) a0 6).toNat) (p_or ((up2 I (a0 + 6) ((((I a0 6) * 9) + (I (a0 + 4) (I a0 6).toNat)).toNat) x1) (a0 + 5) ((up2 I (a0 + 6) ((((I a0 6) * 9) + (I (a0 + 4) (I a0 6).toNat)).toNat) x1) a0 6).toNat) (p_shl 1 x1))) a0 6 < (12 : Nat))
    (hP : ¬((x1 ≠ I a0 6) ∧ ((p_and (p_shr (I (a0 + 5) (I a0 6).toNat) x1) 1 = 0) ∧ (I (a0 + 4) (I a0 6).toNat < 9)))) : Ca d mX0_addNeighbour [vR (some (11, 0, a0)), vI x1] (I, S) (.inl (some (vI 0))) (I, S) :=
  Ca.of rfl rfl (
  b_X0_addNeighbour_0 (ly_X0_3 hl0) v1 (fun (c1 : x1 = I a0 6) => ev_ret2 rfl rfl (b_X0_addNeighbour_40 )) (fun (c2 : x1 ≠ I a0 6) => 
    b_X0_addNeighbour_18 (ly_X0_4 hl0) v1 (fun (c3 : p_and (p_shr (I (a0 + 5) (I a0 6).toNat) x1) 1 ≠ 0) => ev_ret2 rfl rfl (b_X0_addNeighbour_40 )) (fun (c4 : p_and (p_shr (I (a0 + 5) (I a0 6).toNat) x1) 1 = 0) => 
      b_X0_addNeighbour_34  (fun (c5 : I (a0 + 4) (I a0 6).toNat < 9) => absurd (⟨c2, ⟨c4, c5⟩⟩) hP) (fun (c6 : 9 ≤ I (a0 + 4) (I a0 6).toNat) => ev_ret2 rfl rfl (b_X0_addNeighbour_40 )))))
theorem c_X2_copyFrom {d : Nat} {I : Nat → Nat → Int} {S : PS} {a0 a1 : Nat} (hl0 : LyX2 S a0) (hl1 : LyX2 S a1) : Ca d mX2_copyFrom [vR (some (13, 0, a0)), vR (some (13, 0, a1))] (I, S) (.inl none) ((cpyI I (a1 + 1) 0 (a0 + 1) 0 4), S) :=
  Ca.of rfl rfl (ev_retV rfl (b_X2_copyFrom_0 (ly_X2_0 hl1) (ly_X2_0 hl0) (by first | decide | exact (show (0 : Int) + 4 ≤ (4 : Nat) from by decide)) (by first | decide | exact (show (0 : Int) + 4 ≤ (4 : Nat) from by decide))))
theorem c_X2_painted {d : Nat} {I : Nat → Nat → Int} {S : PS} {a0 : Nat} (hl0 : LyX2 S a0) : Ca d mX2_painted [vR (some (13, 0, a0))] (I, S) (.inl (some (vI (p_or (p_or (p_or (I (a0 + 1) 0) (I (a0 + 1) 1)) (I (a0 + 1) 2)) (I (a0 + 1) 3))))) (I, S) :=
  Ca.of rfl rfl (ev_ret2 rfl rfl (b_X2_painted_0 (ly_X2_0 hl0) (by decide) (by decide) (by decide) (by decide)))
theorem c_X2_isPainted {d : Nat} {I : Nat → Nat → Int} {S : PS} {a0 : Nat} {x1 : Int} (hl0 : LyX2 S a0) : Ca (d + 1) mX2_isPainted [vR (some (13, 0, a0)), vI x1] (I, S) (.inl (some (vI (if p_and (p_shr (p_or (p_or (p_or (I (a0 + 1) 0) (I (a0 + 1) 1)) (I (a0 + 1) 2)) (I (a0 + 1) 3)) x1) 1 ≠ 0 then (1 : Int) else 0)))) (I, S) :=
  Ca.of rfl rfl (
  b_X2_isPainted_0  (c_X2_painted hl0) (
  have K2 : ∀ us0 : Int, us0 = (if p_and (p_shr (p_or (p_or (p_or (I (a0 + 1) 0) (I (a0 + 1) 1)) (I (a0 + 1) 2)) (I (a0 + 1) 3)) x1) 1 ≠ 0 then (1 : Int) else 0) → Ev (d + 1) mX2_isPainted (16, [some (vR (some (13, 0, a0))), some (vI x1)], [vI us0], (I, S)) ((.inl (some (vI (if p_and (p_shr (p_or (p_or (p_or (I (a0 + 1) 0) (I (a0 + 1) 1)) (I (a0 + 1) 2)) (I (a0 + 1) 3)) x1) 1 ≠ 0 then (1 : Int) else 0)))), (I, S)) := fun us0 e_us0 => by subst e_us0; exact (ev_ret2 rfl rfl (b_X2_isPainted_16 (ite01 _)))
  
  b_X2_isPainted_4  (fun (c1 : p_and (p_shr (p_or (p_or (p_or (I (a0 + 1) 0) (I (a0 + 1) 1)) (I (a0 + 1) 2)) (I (a0 + 1) 3)) x1) 1 = 0) => 
    b_X2_isPainted_15  (K2 0 (if_neg (fun q => q c1)).symm)) (fun (c2 : p_and (p_shr (p_or (p_or (p_or (I (a0 + 1) 0) (I (a0 + 1) 1)) (I (a0 + 1) 2)) (I (a0 + 1) 3)) x1) 1 ≠ 0) => 
    b_X2_isPainted_11  (K2 1 (if_pos c2).symm))))
theorem c_X2_mayPaint {d : Nat} {I : Nat → Nat → Int} {S : PS} {a0 a1 : Nat} {x2 x3 : Int} (hl0 : LyX2 S a0) (hl1 : LyX0 S a1)
    (v1 : ((0 ≤ x3) ∧ (x3 < 4)) → (p_and (p_shr (p_or (p_or (p_or (I (a0 + 1) 0) (I (a0 + 1) 1)) (I (a0 + 1) 2)) (I (a0 + 1) 3)) x2) 1 = 0) → 0 ≤ x3 ∧ x3 < (4 : Nat))
    (v2 : ((0 ≤ x3) ∧ (x3 < 4)) → (p_and (p_shr (p_or (p_or (p_or (I (a0 + 1) 0) (I (a0 + 1) 1)) (I (a0 + 1) 2)) (I (a0 + 1) 3)) x2) 1 = 0) → 0 ≤ x2 ∧ x2 < (12 : Nat)) : Ca (d + 1) mX2_mayPaint [vR (some (13, 0, a0)), vR (some (11, 0, a1)), vI x2, vI x3] (I, S) (.inl (some (vI (if ((0 ≤ x3) ∧ (x3 < 4)) ∧ ((p_and (p_shr (p_or (p_or (p_or (I (a0 + 1) 0) (I (a0 + 1) 1)) (I (a0 + 1) 2)) (I (a0 + 1) 3)) x2) 1 = 0) ∧ (p_and (I (a0 + 1) x3.toNat) (I (a1 + 5) x2.toNat) = 0)) then (1 : Int) else 0)))) (I, S) :=
  Ca.of rfl rfl (
  b_X2_mayPaint_0  c_X11_isColour (
  have K6 : ∀ us0 : Int, us0 = (if ((0 ≤ x3) ∧ (x3 < 4)) ∧ ((p_and (p_shr (p_or (p_or (p_or (I (a0 + 1) 0) (I (a0 + 1) 1)) (I (a0 + 1) 2)) (I (a0 + 1) 3)) x2) 1 = 0) ∧ (p_and (I (a0 + 1) x3.toNat) (I (a1 + 5) x2.toNat) = 0)) then (1 : Int) else 0) → Ev (d + 1) mX2_mayPaint (39, [some (vR (some (13, 0, a0))), some (vR (some (11, 0, a1))), some (vI x2), some (vI x3)], [vI us0], (I, S)) ((.inl (some (vI (if ((0 ≤ x3) ∧ (x3 < 4)) ∧ ((p_and (p_shr (p_or (p_or (p_or (I (a0 + 1) 0) (I (a0 + 1) 1)) (I (a0 + 1) 2)) (I (a0 + 1) 3)) x2) 1 = 0) ∧ (p_and (I (a0 + 1) x3.toNat) (I (a1 + 5) x2.toNat) = 0)) then (1 : Int) else 0)))), (I, S)) := fun us0 e_us0 => by subst e_us0; exact (ev_ret2 rfl rfl (b_X2_mayPaint_39 (ite01 _)))
  
  b_X2_mayPaint_4  (fun c1' => have c1 : ¬((0 ≤ x3) ∧ (x3 < 4)) := b2f c1'; 
    b_X2_mayPaint_38  (K6 0 (if_neg (fun q => c1 q.1)).symm)) (fun c2' => have c2 : (0 ≤ x3) ∧ (x3 < 4) := b2t c2'; 
    b_X2_mayPaint_7  (c_X2_painted hl0) (
    b_X2_mayPaint_11  (fun (c3 : p_and (p_shr (p_or (p_or (p_or (I (a0 + 1) 0) (I (a0 + 1) 1)) (I (a0 + 1) 2)) (I (a0 + 1) 3)) x2) 1 ≠ 0) => 
      b_X2_mayPaint_38  (K6 0 (if_neg (fun q => (fun q => c3 q.1) q.2)).symm)) (fun (c4 : p_and (p_shr (p_or (p_or (p_or (I (a0 + 1) 0) (I (a0 + 1) 1)) (I (a0 + 1) 2)) (I (a0 + 1) 3)) x2) 1 = 0) => 
      b_X2_mayPaint_18 (ly_X2_0 hl0) (v1 c2 c4) (ly_X0_4 hl1) (v2 c2 c4) (fun (c5 : p_and (I (a0 + 1) x3.toNat) (I (a1 + 5) x2.toNat) ≠ 0) => 
        b_X2_mayPaint_38  (K6 0 (if_neg (fun q => (fun q => c5 q.2) q.2)).symm)) (fun (c6 : p_and (I (a0 + 1) x3.toNat) (I (a1 + 5) x2.toNat) = 0) => 
        b_X2_mayPaint_34  (K6 1 (if_pos ⟨c2, ⟨c4, c6⟩⟩).symm)))))))
theorem c_X2_exchange {d : Nat} {I : Nat → Nat → Int} {S : PS} {a0 : Nat} {x1 x2 x3 : Int} (hl0 : LyX2 S a0)
    (v1 : 0 ≤ x2 ∧ x2 < (4 : Nat))
    (v2 : 0 ≤ x3 ∧ x3 < (4 : Nat)) : Ca d mX2_exchange [vR (some (13, 0, a0)), vI x1, vI x2, vI x3] (I, S) (.inl none) ((up2 (up2 I (a0 + 1) (x2.toNat) (p_or (p_and (I (a0 + 1) x2.toNat) (p_xor x1 (-1))) (p_and (I (a0 + 1) x3.toNat) x1))) (a0 + 1) (x3.toNat) (p_or (p_and ((up2 I (a0 + 1) (x2.toNat) (p_or (p_and (I (a0 + 1) x2.toNat) (p_xor x1 (-1))) (p_and (I (a0 + 1) x3.toNat) x1))) (a0 + 1) x3.toNat) (p_xor x1 (-1))) (p_and (I (a0 + 1) x2.toNat) x1))), S) :=
  Ca.of rfl rfl (ev_retV rfl (b_X2_exchange_0 (ly_X2_0 hl0) v1 v2 v1 v1 v2 v2))
theorem c_X3_begin {d : Nat} {I : Nat → Nat → Int} {S : PS} {a0 : Nat} {x1 : Int} (hl0 : LyX3 S a0) : Ca d mX3_begin [vR (some (14, 0, a0)), vI x1] (I, S) (.inl none) ((up2 (up2 (up2 (up2 I a0 0 x1) a0 1 0) a0 6 0) a0 9 0), S) :=
  Ca.of rfl rfl (ev_retV rfl (b_X3_begin_0 ))
theorem c_X3_addSpoke_y {d : Nat} {I : Nat → Nat → Int} {S : PS} {a0 : Nat} {x1 : Int} (hl0 : LyX3 S a0)
    (v1 : (I a0 1 < I a0 0) → (I a0 1 < 7) → 0 ≤ I a0 1 ∧ I a0 1 < (7 : Nat))
    (v2 : (I a0 1 < I a0 0) → (I a0 1 < 7) → -2147483648 ≤ ((up2 I (a0 + 1) ((I a0 1).toNat) x1) a0 1) + 1 ∧ ((up2 I (a0 + 1) ((I a0 1).toNat) x1) a0 1) + 1 ≤ 2147483647)
    (hP : (I a0 1 < I a0 0) ∧ (I a0 1 < 7)) : Ca d mX3_addSpoke [vR (some (14, 0, a0)), vI x1] (I, S) (.inl (some (vI 1))) ((up2 (up2 I (a0 + 1) ((I a0 1).toNat) x1) a0 1 (((up2 I (a0 + 1) ((I a0 1).toNat) x1) a0 1) + 1)), S) :=
  Ca.of rfl rfl (
  b_X3_addSpoke_0  (fun (c1 : I a0 0 ≤ I a0 1) => absurd hP (fun q => (Int.not_lt.mpr c1) q.1)) (fun (c2 : I a0 1 < I a0 0) => 
    b_X3_addSpoke_11  (fun (c3 : I a0 1 < 7) => ev_ret2 rfl rfl (b_X3_addSpoke_22 (ly_X3_2 hl0) (v1 c2 c3) (v2 c2 c3))) (fun (c4 : 7 ≤ I a0 1) => absurd hP (fun q => (Int.not_lt.mpr c4) q.2))))
theorem c_X3_addSpoke_n {d : Nat} {I : Nat → Nat → Int} {S : PS} {a0 : Nat} {x1 : Int} (hl0 : LyX3 S a0)
    (v1 : (I a0 1 < I a0 0) → (I a0 1 < 7) → 0 ≤ I a0 1 ∧ I a0 1 < (7 : Nat))
    (v2 : (I a0 1 < I a0 0) → (I a0 1 < 7) → -2147483648 ≤ ((up2 I (a0 + 1) ((I a0 1).toNat) x1) a0 1) + 1 ∧ ((up2 I (a0 + 1) ((I a0 1).toNat) x1) a0 1) + 1 ≤ 2147483647)
    (hP : ¬((I a0 1 < I a0 0) ∧ (I a0 1 < 7))) : Ca d mX3_addSpoke [vR (some (14, 0, a0)), vI x1] (I, S) (.inl (some (vI 0))) (I, S) :=
  Ca.of rfl rfl (
  b_X3_addSpoke_0  (fun (c1 : I a0 0 ≤ I a0 1) => ev_ret2 rfl rfl (b_X3_addSpoke_20 )) (fun (c2 : I a0 1 < I a0 0) => 
    b_X3_addSpoke_11  (fun (c3 : I a0 1 < 7) => absurd (⟨c2, c3⟩) hP) (fun (c4 : 7 ≤ I a0 1) => ev_ret2 rfl rfl (b_X3_addSpoke_20 ))))
theorem c_X3_isWheel {d : Nat} {I : Nat → Nat → Int} {S : PS} {a0 : Nat} (hl0 : LyX3 S a0) : Ca d mX3_isWheel [vR (some (14, 0, a0))] (I, S) (.inl (some (vI (if I a0 1 = I a0 0 then (1 : Int) else 0)))) (I, S) :=
  Ca.of rfl rfl (
  have K2 : ∀ us0 : Int, us0 = (if I a0 1 = I a0 0 then (1 : Int) else 0) → Ev d mX3_isWheel (16, [some (vR (some (14, 0, a0)))], [vI us0], (I, S)) ((.inl (some (vI (if I a0 1 = I a0 0 then (1 : Int) else 0)))), (I, S)) := fun us0 e_us0 => by subst e_us0; exact (ev_ret2 rfl rfl (b_X3_isWheel_16 (ite01 _)))
  
  b_X3_isWheel_0  (fun (c1 : I a0 1 ≠ I a0 0) => 
    b_X3_isWheel_15  (K2 0 (if_neg c1).symm)) (fun (c2 : I a0 1 = I a0 0) => 
    b_X3_isWheel_11  (K2 1 (if_pos c2).symm)))
theorem c0_X3_edgesToRing {d : Nat} {I : Nat → Nat → Int} {S : PS} {a0 : Nat} {x1 : Int} (hl0 : LyX3 S a0)
    (v1 : -2147483648 ≤ x1 + 1 ∧ x1 + 1 ≤ 2147483647)
    (v2 : (x1 + 1 < I a0 1) → -2147483648 ≤ (if 0 < x1 then ((1 : Int) + 1 : Int) else (if ¬(I a0 1 = I a0 0) then (1 : Int) else (1 : Int) + 1)) + 1 ∧ (if 0 < x1 then ((1 : Int) + 1 : Int) else (if ¬(I a0 1 = I a0 0) then (1 : Int) else (1 : Int) + 1)) + 1 ≤ 2147483647)
    (v3 : (I a0 1 ≤ x1 + 1) → (I a0 1 = I a0 0) → -2147483648 ≤ (if 0 < x1 then ((1 : Int) + 1 : Int) else (if ¬(I a0 1 = I a0 0) then (1 : Int) else (1 : Int) + 1)) + 1 ∧ (if 0 < x1 then ((1 : Int) + 1 : Int) else (if ¬(I a0 1 = I a0 0) then (1 : Int) else (1 : Int) + 1)) + 1 ≤ 2147483647)
    (v4 : 0 ≤ x1 ∧ x1 < (7 : Nat))
    (v5 : -2147483648 ≤ (I (a0 + 1) x1.toNat) - (if x1 + 1 < I a0 1 then ((if 0 < x1 then ((1 : Int) + 1 : Int) else (if ¬(I a0 1 = I a0 0) then (1 : Int) else (1 : Int) + 1)) + 1 : Int) else (if ¬(I a0 1 = I a0 0) then ((if 0 < x1 then ((1 : Int) + 1 : Int) else (if ¬(I a0 1 = I a0 0) then (1 : Int) else (1 : Int) + 1)) : Int) else (if 0 < x1 then ((1 : Int) + 1 : Int) else (if ¬(I a0 1 = I a0 0) then (1 : Int) else (1 : Int) + 1)) + 1)) ∧ (I (a0 + 1) x1.toNat) - (if x1 + 1 < I a0 1 then ((if 0 < x1 then ((1 : Int) + 1 : Int) else (if ¬(I a0 1 = I a0 0) then (1 : Int) else (1 : Int) + 1)) + 1 : Int) else (if ¬(I a0 1 = I a0 0) then ((if 0 < x1 then ((1 : Int) + 1 : Int) else (if ¬(I a0 1 = I a0 0) then (1 : Int) else (1 : Int) + 1)) : Int) else (if 0 < x1 then ((1 : Int) + 1 : Int) else (if ¬(I a0 1 = I a0 0) then (1 : Int) else (1 : Int) + 1)) + 1)) ≤ 2147483647) : Ca (d + 1) mX3_edgesToRing [vR (some (14, 0, a0)), vI x1] (I, S) (.inl (some (vI ((I (a0 + 1) x1.toNat) - (if x1 + 1 < I a0 1 then ((if 0 < x1 then ((1 : Int) + 1 : Int) else (if ¬(I a0 1 = I a0 0) then (1 : Int) else (1 : Int) + 1)) + 1 : Int) else (if ¬(I a0 1 = I a0 0) then ((if 0 < x1 then ((1 : Int) + 1 : Int) else (if ¬(I a0 1 = I a0 0) then (1 : Int) else (1 : Int) + 1)) : Int) else (if 0 < x1 then ((1 : Int) + 1 : Int) else (if ¬(I a0 1 = I a0 0) then (1 : Int) else (1 : Int) + 1)) + 1)))))) (I, S) :=
  Ca.of rfl rfl (
  have K4 : ∀ u2 : Int, u2 = (if 0 < x1 then ((1 : Int) + 1 : Int) else (if ¬(I a0 1 = I a0 0) then (1 : Int) else (1 : Int) + 1)) → Ev (d + 1) mX3_edgesToRing (16, [some (vR (some (14, 0, a0))), some (vI x1), some (vI u2)], [], (I, S)) ((.inl (some (vI ((I (a0 + 1) x1.toNat) - (if x1 + 1 < I a0 1 then ((if 0 < x1 then ((1 : Int) + 1 : Int) else (if ¬(I a0 1 = I a0 0) then (1 : Int) else (1 : Int) + 1)) + 1 : Int) else (if ¬(I a0 1 = I a0 0) then ((if 0 < x1 then ((1 : Int) + 1 : Int) else (if ¬(I a0 1 = I a0 0) then (1 : Int) else (1 : Int) + 1)) : Int) else (if 0 < x1 then ((1 : Int) + 1 : Int) else (if ¬(I a0 1 = I a0 0) then (1 : Int) else (1 : Int) + 1)) + 1)))))), (I, S)) := fun u2 e_u2 => by subst e_u2; exact (
    have K9 : ∀ u2 : Int, u2 = (if x1 + 1 < I a0 1 then ((if 0 < x1 then ((1 : Int) + 1 : Int) else (if ¬(I a0 1 = I a0 0) then (1 : Int) else (1 : Int) + 1)) + 1 : Int) else (if ¬(I a0 1 = I a0 0) then ((if 0 < x1 then ((1 : Int) + 1 : Int) else (if ¬(I a0 1 = I a0 0) then (1 : Int) else (1 : Int) + 1)) : Int) else (if 0 < x1 then ((1 : Int) + 1 : Int) else (if ¬(I a0 1 = I a0 0) then (1 : Int) else (1 : Int) + 1)) + 1)) → Ev (d + 1) mX3_edgesToRing (36, [some (vR (some (14, 0, a0))), some (vI x1), some (vI u2)], [], (I, S)) ((.inl (some (vI ((I (a0 + 1) x1.toNat) - (if x1 + 1 < I a0 1 then ((if 0 < x1 then ((1 : Int) + 1 : Int) else (if ¬(I a0 1 = I a0 0) then (1 : Int) else (1 : Int) + 1)) + 1 : Int) else (if ¬(I a0 1 = I a0 0) then ((if 0 < x1 then ((1 : Int) + 1 : Int) else (if ¬(I a0 1 = I a0 0) then (1 : Int) else (1 : Int) + 1)) : Int) else (if 0 < x1 then ((1 : Int) + 1 : Int) else (if ¬(I a0 1 = I a0 0) then (1 : Int) else (1 : Int) + 1)) + 1)))))), (I, S)) := fun u2 e_u2 => by subst e_u2; exact (ev_ret2 rfl rfl (b_X3_edgesToRing_36 (ly_X3_2 hl0) v4 v5))
    
    b_X3_edgesToRing_16 v1 (fun (c6 : x1 + 1 < I a0 1) => 
      b_X3_edgesToRing_33 (v2 c6) (K9 ((if 0 < x1 then ((1 : Int) + 1 : Int) else (if ¬(I a0 1 = I a0 0) then (1 : Int) else (1 : Int) + 1)) + 1) ((if_pos c6).symm))) (fun (c7 : I a0 1 ≤ x1 + 1) => 
      b_X3_edgesToRing_26  (c_X3_isWheel hl0) (
      b_X3_edgesToRing_30  (fun c8' => have c8 : ¬(I a0 1 = I a0 0) := b2f c8'; K9 (if 0 < x1 then ((1 : Int) + 1 : Int) else (if ¬(I a0 1 = I a0 0) then (1 : Int) else (1 : Int) + 1)) ((if_pos c8).symm.trans (if_neg (Int.not_lt.mpr c7)).symm)) (fun c9' => have c9 : I a0 1 = I a0 0 := b2t c9'; 
        b_X3_edgesToRing_33 (v3 c7 c9) (K9 ((if 0 < x1 then ((1 : Int) + 1 : Int) else (if ¬(I a0 1 = I a0 0) then (1 : Int) else (1 : Int) + 1)) + 1) ((if_neg (fun q => q c9)).symm.trans (if_neg (Int.not_lt.mpr c7)).symm))))))
  
  b_X3_edgesToRing_0  (fun (c1 : 0 < x1) => 
    b_X3_edgesToRing_13 (by first | decide | exact (show -2147483648 ≤ (1 : Int) + 1 ∧ (1 : Int) + 1 ≤ 2147483647 from by decide)) (K4 ((1 : Int) + 1) ((if_pos c1).symm))) (fun (c2 : x1 ≤ 0) => 
    b_X3_edgesToRing_6  (c_X3_isWheel hl0) (
    b_X3_edgesToRing_10  (fun c3' => have c3 : ¬(I a0 1 = I a0 0) := b2f c3'; K4 1 ((if_pos c3).symm.trans (if_neg (Int.not_lt.mpr c2)).symm)) (fun c4' => have c4 : I a0 1 = I a0 0 := b2t c4'; 
      b_X3_edgesToRing_13 (by first | decide | exact (show -2147483648 ≤ (1 : Int) + 1 ∧ (1 : Int) + 1 ≤ 2147483647 from by decide)) (K4 ((1 : Int) + 1) ((if_neg (fun q => q c4)).symm.trans (if_neg (Int.not_lt.mpr c2)).symm))))))
def f_X3_edgesToRing (I : Nat → Nat → Int) (a0 : Nat) (x1 : Int) : Int := (I (a0 + 1) x1.toNat) - (if x1 + 1 < I a0 1 then ((if 0 < x1 then ((1 : Int) + 1 : Int) else (if ¬(I a0 1 = I a0 0) then (1 : Int) else (1 : Int) + 1)) + 1 : Int) else (if ¬(I a0 1 = I a0 0) then ((if 0 < x1 then ((1 : Int) + 1 : Int) else (if ¬(I a0 1 = I a0 0) then (1 : Int) else (1 : Int) + 1)) : Int) else (if 0 < x1 then ((1 : Int) + 1 : Int) else (if ¬(I a0 1 = I a0 0) then (1 : Int) else (1 : Int) + 1)) + 1))
theorem c_X3_edgesToRing {d : Nat} {I : Nat → Nat → Int} {S : PS} {a0 : Nat} {x1 : Int} (hl0 : LyX3 S a0)
    (v1 : -2147483648 ≤ x1 + 1 ∧ x1 + 1 ≤ 2147483647)
    (v2 : (x1 + 1 < I a0 1) → -2147483648 ≤ (if 0 < x1 then ((1 : Int) + 1 : Int) else (if ¬(I a0 1 = I a0 0) then (1 : Int) else (1 : Int) + 1)) + 1 ∧ (if 0 < x1 then ((1 : Int) + 1 : Int) else (if ¬(I a0 1 = I a0 0) then (1 : Int) else (1 : Int) + 1)) + 1 ≤ 2147483647)
    (v3 : (I a0 1 ≤ x1 + 1) → (I a0 1 = I a0 0) → -2147483648 ≤ (if 0 < x1 then ((1 : Int) + 1 : Int) else (if ¬(I a0 1 = I a0 0) then (1 : Int) else (1 : Int) + 1)) + 1 ∧ (if 0 < x1 then ((1 : Int) + 1 : Int) else (if ¬(I a0 1 = I a0 0) then (1 : Int) else (1 : Int) + 1)) + 1 ≤ 2147483647)
    (v4 : 0 ≤ x1 ∧ x1 < (7 : Nat))
    (v5 : -2147483648 ≤ (I (a0 + 1) x1.toNat) - (if x1 + 1 < I a0 1 then ((if 0 < x1 then ((1 : Int) + 1 : Int) else (if ¬(I a0 1 = I a0 0) then (1 : Int) else (1 : Int) + 1)) + 1 : Int) else (if ¬(I a0 1 = I a0 0) then ((if 0 < x1 then ((1 : Int) + 1 : Int) else (if ¬(I a0 1 = I a0 0) then (1 : Int) else (1 : Int) + 1)) : Int) else (if 0 < x1 then ((1 : Int) + 1 : Int) else (if ¬(I a0 1 = I a0 0) then (1 : Int) else (1 : Int) + 1)) + 1)) ∧ (I (a0 + 1) x1.toNat) - (if x1 + 1 < I a0 1 then ((if 0 < x1 then ((1 : Int) + 1 : Int) else (if ¬(I a0 1 = I a0 0) then (1 : Int) else (1 : Int) + 1)) + 1 : Int) else (if ¬(I a0 1 = I a0 0) then ((if 0 < x1 then ((1 : Int) + 1 : Int) else (if ¬(I a0 1 = I a0 0) then (1 : Int) else (1 : Int) + 1)) : Int) else (if 0 < x1 then ((1 : Int) + 1 : Int) else (if ¬(I a0 1 = I a0 0) then (1 : Int) else (1 : Int) + 1)) + 1)) ≤ 2147483647) : Ca (d + 1) mX3_edgesToRing [vR (some (14, 0, a0)), vI x1] (I, S) (.inl (some (vI (f_X3_edgesToRing I a0 x1)))) (I, S) := c0_X3_edgesToRing hl0 v1 v2 v3 v4 v5
theorem c_X3_link {d : Nat} {I : Nat → Nat → Int} {S : PS} {a0 : Nat} {x1 x2 : Int} (hl0 : LyX3 S a0)
    (v1 : 0 ≤ x1 ∧ x1 < (15 : Nat))
    (v2 : 0 ≤ x2 ∧ x2 < (15 : Nat)) : Ca d mX3_link [vR (some (14, 0, a0)), vI x1, vI x2] (I, S) (.inl none) ((up2 (up2 I (a0 + 2) (x1.toNat) (p_or (I (a0 + 2) x1.toNat) (p_shl 1 x2))) (a0 + 2) (x2.toNat) (p_or ((up2 I (a0 + 2) (x1.toNat) (p_or (I (a0 + 2) x1.toNat) (p_shl 1 x2))) (a0 + 2) x2.toNat) (p_shl 1 x1))), S) :=
  Ca.of rfl rfl (ev_retV rfl (b_X3_link_0 (ly_X3_5 hl0) v1 v1 v2 v2))
theorem c_X3_addJoin_y {d : Nat} {I : Nat → Nat → Int} {S : PS} {a0 : Nat} {x1 x2 : Int} (hl0 : LyX3 S a0)
    (v1 : 0 ≤ x1 ∧ x1 < (15 : Nat))
    (v2 : (p_and (p_shr (I (a0 + 2) x1.toNat) x2) 1 ≠ 0) → (¬(p_and (p_shr (I (a0 + 3) x1.toNat) x2) 1 ≠ 0)) → (I a0 3 ≤ x1) → 0 ≤ x2 ∧ x2 < (15 : Nat))
    (v3 : (p_and (p_shr (I (a0 + 2) x1.toNat) x2) 1 ≠ 0) → (¬(p_and (p_shr (I (a0 + 3) x1.toNat) x2) 1 ≠ 0)) → (I a0 3 ≤ x1) → -2147483648 ≤ ((up2 (up2 I (a0 + 3) (x1.toNat) (p_or (I (a0 + 3) x1.toNat) (p_shl 1 x2))) (a0 + 3) (x2.toNat) (p_or ((up2 I (a0 + 3) (x1.toNat) (p_or (I (a0 + 3) x1.toNat) (p_shl 1 x2))) (a0 + 3) x2.toNat) (p_shl 1 x1))) a0 6) + 1 ∧ ((up2 (up2 I (a0 + 3) (x1.toNat) (p_or (I (a0 + 3) x1.toNat) (p_shl 1 x2))) (a0 + 3) (x2.toNat) (p_or ((up2 I (a0 + 3) (x1.toNat) (p_or (I (a0 + 3) x1.toNat) (p_shl 1 x2))) (a0 + 3) x2.toNat) (p_shl 1 x1))) a0 6) + 1 ≤ 2147483647)
    (v4 : (p_and (p_shr (I (a0 + 2) x1.toNat) x2) 1 ≠ 0) → (¬(p_and (p_shr (I (a0 + 3) x1.toNat) x2) 1 ≠ 0)) → (x1 < I a0 3) → (I a0 3 ≤ x2) → 0 ≤ x2 ∧ x2 < (15 : Nat))
    (v5 : (p_and (p_shr (I (a0 + 2) x1.toNat) x2) 1 ≠ 0) → (¬(p_and (p_shr (I (a0 + 3) x1.toNat) x2) 1 ≠ 0)) → (x1 < I a0 3) → (I a0 3 ≤ x2) → -2147483648 ≤ ((up2 (up2 I (a0 + 3) (x1.toNat) (p_or (I (a0 + 3) x1.toNat) (p_shl 1 x2))) (a0 + 3) (x2.toNat) (p_or ((up2 I (a0 + 3) (x1.toNat) (p_or (I (a0 + 3) x1.toNat) (p_shl 1 x2))) (a0 + 3) x2.toNat) (p_shl 1 x1))) a0 6) + 1 ∧ ((up2 (up2 I (a0 + 3) (x1.toNat) (p_or (I (a0 + 3) x1.toNat) (p_shl 1 x2))) (a0 + 3) (x2.toNat) (p_or ((up2 I (a0 + 3) (x1.toNat) (p_or (I (a0 + 3) x1.toNat) (p_shl 1 x2))) (a0 + 3) x2.toNat) (p_shl 1 x1))) a0 6) + 1 ≤ 2147483647)
    (hP : (p_and (p_shr (I (a0 + 2) x1.toNat) x2) 1 ≠ 0) ∧ ((¬(p_and (p_shr (I (a0 + 3) x1.toNat) x2) 1 ≠ 0)) ∧ ((I a0 3 ≤ x1) ∨ (I a0 3 ≤ x2)))) : Ca d mX3_addJoin [vR (some (14, 0, a0)), vI x1, vI x2] (I, S) (.inl (some (vI 1))) ((up2 (up2 (up2 I (a0 + 3) (x1.toNat) (p_or (I (a0 + 3) x1.toNat) (p_shl 1 x2))) (a0 + 3) (x2.toNat) (p_or ((up2 I (a0 + 3) (x1.toNat) (p_or (I (a0 + 3) x1.toNat) (p_shl 1 x2))) (a0 + 3) x2.toNat) (p_shl 1 x1))) a0 6 (((up2 (up2 I (a0 + 3) (x1.toNat) (p_or (I (a0 + 3) x1.toNat) (p_shl 1 x2))) (a0 + 3) (x2.toNat) (p_or ((up2 I (a0 + 3) (x1.toNat) (p_or (I (a0 + 3) x1.toNat) (p_shl 1 x2))) (a0 + 3) x2.toNat) (p_shl 1 x1))) a0 6) + 1)), S) :=
  Ca.of rfl rfl (
  have K2 : ∀ us0 : Int, us0 = (if p_and (p_shr (I (a0 + 2) x1.toNat) x2) 1 ≠ 0 then (1 : Int) else 0) → Ev d mX3_addJoin (18, [some (vR (some (14, 0, a0))), some (vI x1), some (vI x2), none, none], [vI us0], (I, S)) ((.inl (some (vI 1))), ((up2 (up2 (up2 I (a0 + 3) (x1.toNat) (p_or (I (a0 + 3) x1.toNat) (p_shl 1 x2))) (a0 + 3) (x2.toNat) (p_or ((up2 I (a0 + 3) (x1.toNat) (p_or (I (a0 + 3) x1.toNat) (p_shl 1 x2))) (a0 + 3) x2.toNat) (p_shl 1 x1))) a0 6 (((up2 (up2 I (a0 + 3) (x1.toNat) (p_or (I (a0 + 3) x1.toNat) (p_shl 1 x2))) (a0 + 3) (x2.toNat) (p_or ((up2 I (a0 + 3) (x1.toNat) (p_or (I (a0 + 3) x1.toNat) (p_shl 1 x2))) (a0 + 3) x2.toNat) (p_shl 1 x1))) a0 6) + 1)), S)) := fun us0 e_us0 => by subst e_us0; exact (
    have K5 : ∀ us0 : Int, us0 = (if p_and (p_shr (I (a0 + 3) x1.toNat) x2) 1 ≠ 0 then (1 : Int) else 0) → Ev d mX3_addJoin (37, [some (vR (some (14, 0, a0))), some (vI x1), some (vI x2), some (vI (if p_and (p_shr (I (a0 + 2) x1.toNat) x2) 1 ≠ 0 then (1 : Int) else 0)), none], [vI us0], (I, S)) ((.inl (some (vI 1))), ((up2 (up2 (up2 I (a0 + 3) (x1.toNat) (p_or (I (a0 + 3) x1.toNat) (p_shl 1 x2))) (a0 + 3) (x2.toNat) (p_or ((up2 I (a0 + 3) (x1.toNat) (p_or (I (a0 + 3) x1.toNat) (p_shl 1 x2))) (a0 + 3) x2.toNat) (p_shl 1 x1))) a0 6 (((up2 (up2 I (a0 + 3) (x1.toNat) (p_or (I (a0 + 3) x1.toNat) (p_shl 1 x2))) (a0 + 3) (x2.toNat) (p_or ((up2 I (a0 + 3) (x1.toNat) (p_or (I (a0 + 3) x1.toNat) (p_shl 1 x2))) (a0 + 3) x2.toNat) (p_shl 1 x1))) a0 6) + 1)), S)) := fun us0 e_us0 => by subst e_us0; exact (
      b_X3_addJoin_37  (fun c7' => have c7 : ¬(p_and (p_shr (I (a0 + 2) x1.toNat) x2) 1 ≠ 0) := b2f c7'; absurd hP (fun q => c7 q.1)) (fun c8' => have c8 : p_and (p_shr (I (a0 + 2) x1.toNat) x2) 1 ≠ 0 := b2t c8'; 
        b_X3_addJoin_43  (fun c9' => have c9 : p_and (p_shr (I (a0 + 3) x1.toNat) x2) 1 ≠ 0 := b2t c9'; absurd hP (fun q => (fun q => (fun q => q c9) q.1) q.2)) (fun c10' => have c10 : ¬(p_and (p_shr (I (a0 + 3) x1.toNat) x2) 1 ≠ 0) := b2f c10'; 
          b_X3_addJoin_48  (fun (c11 : I a0 3 ≤ x1) => ev_ret2 rfl rfl (b_X3_addJoin_66 (ly_X3_7 hl0) v1 v1 (v2 c8 c10 c11) (v2 c8 c10 c11) (v3 c8 c10 c11))) (fun (c12 : x1 < I a0 3) => 
            b_X3_addJoin_56  (fun (c13 : I a0 3 ≤ x2) => ev_ret2 rfl rfl (b_X3_addJoin_66 (ly_X3_7 hl0) v1 v1 (v4 c8 c10 c12 c13) (v4 c8 c10 c12 c13) (v5 c8 c10 c12 c13))) (fun (c14 : x2 < I a0 3) => absurd hP (fun q => (fun q => (fun q => q.elim (Int.not_le.mpr c12) (Int.not_le.mpr c14)) q.2) q.2))))))
    
    b_X3_addJoin_18 (ly_X3_7 hl0) v1 (fun (c4 : p_and (p_shr (I (a0 + 3) x1.toNat) x2) 1 = 0) => 
      b_X3_addJoin_36  (K5 0 (if_neg (fun q => q c4)).symm)) (fun (c5 : p_and (p_shr (I (a0 + 3) x1.toNat) x2) 1 ≠ 0) => 
      b_X3_addJoin_32  (K5 1 (if_pos c5).symm)))
  
  b_X3_addJoin_0 (ly_X3_5 hl0) v1 (fun (c1 : p_and (p_shr (I (a0 + 2) x1.toNat) x2) 1 = 0) => 
    b_X3_addJoin_17  (K2 0 (if_neg (fun q => q c1)).symm)) (fun (c2 : p_and (p_shr (I (a0 + 2) x1.toNat) x2) 1 ≠ 0) => 
    b_X3_addJoin_13  (K2 1 (if_pos c2).symm)))
theorem c_X3_addJoin_n {d : Nat} {I : Nat → Nat → Int} {S : PS} {a0 : Nat} {x1 x2 : Int} (hl0 : LyX3 S a0)
    (v1 : 0 ≤ x1 ∧ x1 < (15 : Nat))
    (v2 : (p_and (p_shr (I (a0 + 2) x1.toNat) x2) 1 ≠ 0) → (¬(p_and (p_shr (I (a0 + 3) x1.toNat) x2) 1 ≠ 0)) → (I a0 3 ≤ x1) → 0 ≤ x2 ∧ x2 < (15 : Nat))
    (v3 : (p_and (p_shr (I (a0 + 2) x1.toNat) x2) 1 ≠ 0) → (¬(p_and (p_shr (I (a0 + 3) x1.toNat) x2) 1 ≠ 0)) → (I a0 3 ≤ x1) → -2147483648 ≤ ((up2 (up2 I (a0 + 3) (x1.toNat) (p_or (I (a0 + 3) x1.toNat) (p_shl 1 x2))) (a0 + 3) (x2.toNat) (p_or ((up2 I (a0 + 3) (x1.toNat) (p_or (I (a0 + 3) x1.toNat) (p_shl 1 x2))) (a0 + 3) x2.toNat) (p_shl 1 x1))) a0 6) + 1 ∧ ((up2 (up2 I (a0 + 3) (x1.toNat) (p_or (I (a0 + 3) x1.toNat) (p_shl 1 x2))) (a0 + 3) (x2.toNat) (p_or ((up2 I (a0 + 3) (x1.toNat) (p_or (I (a0 + 3) x1.toNat) (p_shl 1 x2))) (a0 + 3) x2.toNat) (p_shl 1 x1))) a0 6) + 1 ≤ 2147483647)
    (v4 : (p_and (p_shr (I (a0 + 2) x1.toNat) x2) 1 ≠ 0) → (¬(p_and (p_shr (I (a0 + 3) x1.toNat) x2) 1 ≠ 0)) → (x1 < I a0 3) → (I a0 3 ≤ x2) → 0 ≤ x2 ∧ x2 < (15 : Nat))
    (v5 : (p_and (p_shr (I (a0 + 2) x1.toNat) x2) 1 ≠ 0) → (¬(p_and (p_shr (I (a0 + 3) x1.toNat) x2) 1 ≠ 0)) → (x1 < I a0 3) → (I a0 3 ≤ x2) → -2147483648 ≤ ((up2 (up2 I (a0 + 3) (x1.toNat) (p_or (I (a0 + 3) x1.toNat) (p_shl 1 x2))) (a0 + 3) (x2.toNat) (p_or ((up2 I (a0 + 3) (x1.toNat) (p_or (I (a0 + 3) x1.toNat) (p_shl 1 x2))) (a0 + 3) x2.toNat) (p_shl 1 x1))) a0 6) + 1 ∧ ((up2 (up2 I (a0 + 3) (x1.toNat) (p_or (I (a0 + 3) x1.toNat) (p_shl 1 x2))) (a0 + 3) (x2.toNat) (p_or ((up2 I (a0 + 3) (x1.toNat) (p_or (I (a0 + 3) x1.toNat) (p_shl 1 x2))) (a0 + 3) x2.toNat) (p_shl 1 x1))) a0 6) + 1 ≤ 2147483647)
    (hP : ¬((p_and (p_shr (I (a0 + 2) x1.toNat) x2) 1 ≠ 0) ∧ ((¬(p_and (p_shr (I (a0 + 3) x1.toNat) x2) 1 ≠ 0)) ∧ ((I a0 3 ≤ x1) ∨ (I a0 3 ≤ x2))))) : Ca d mX3_addJoin [vR (some (14, 0, a0)), vI x1, vI x2] (I, S) (.inl (some (vI 0))) (I, S) :=
  Ca.of rfl rfl (
  have K2 : ∀ us0 : Int, us0 = (if p_and (p_shr (I (a0 + 2) x1.toNat) x2) 1 ≠ 0 then (1 : Int) else 0) → Ev d mX3_addJoin (18, [some (vR (some (14, 0, a0))), some (vI x1), some (vI x2), none, none], [vI us0], (I, S)) ((.inl (some (vI 0))), (I, S)) := fun us0 e_us0 => by subst e_us0; exact (
    have K5 : ∀ us0 : Int, us0 = (if p_and (p_shr (I (a0 + 3) x1.toNat) x2) 1 ≠ 0 then (1 : Int) else 0) → Ev d mX3_addJoin (37, [some (vR (some (14, 0, a0))), some (vI x1), some (vI x2), some (vI (if p_and (p_shr (I (a0 + 2) x1.toNat) x2) 1 ≠ 0 then (1 : Int) else 0)), none], [vI us0], (I, S)) ((.inl (some (vI 0))), (I, S)) := fun us0 e_us0 => by subst e_us0; exact (
      b_X3_addJoin_37  (fun c7' => have c7 : ¬(p_and (p_shr (I (a0 + 2) x1.toNat) x2) 1 ≠ 0) := b2f c7'; ev_ret2 rfl rfl (b_X3_addJoin_64 )) (fun c8' => have c8 : p_and (p_shr (I (a0 + 2) x1.toNat) x2) 1 ≠ 0 := b2t c8'; 
        b_X3_addJoin_43  (fun c9' => have c9 : p_and (p_shr (I (a0 + 3) x1.toNat) x2) 1 ≠ 0 := b2t c9'; ev_ret2 rfl rfl (b_X3_addJoin_64 )) (fun c10' => have c10 : ¬(p_and (p_shr (I (a0 + 3) x1.toNat) x2) 1 ≠ 0) := b2f c10'; 
          b_X3_addJoin_48  (fun (c11 : I a0 3 ≤ x1) => absurd (⟨c8, ⟨c10, (Or.inl c11)⟩⟩) hP) (fun (c12 : x1 < I a0 3) => 
            b_X3_addJoin_56  (fun (c13 : I a0 3 ≤ x2) => absurd (⟨c8, ⟨c10, (Or.inr c13)⟩⟩) hP) (fun (c14 : x2 < I a0 3) => ev_ret2 rfl rfl (b_X3_addJoin_64 ))))))
    
    b_X3_addJoin_18 (ly_X3_7 hl0) v1 (fun (c4 : p_and (p_shr (I (a0 + 3) x1.toNat) x2) 1 = 0) => 
      b_X3_addJoin_36  (K5 0 (if_neg (fun q => q c4)).symm)) (fun (c5 : p_and (p_shr (I (a0 + 3) x1.toNat) x2) 1 ≠ 0) => 
      b_X3_addJoin_32  (K5 1 (if_pos c5).symm)))
  
  b_X3_addJoin_0 (ly_X3_5 hl0) v1 (fun (c1 : p_and (p_shr (I (a0 + 2) x1.toNat) x2) 1 = 0) => 
    b_X3_addJoin_17  (K2 0 (if_neg (fun q => q c1)).symm)) (fun (c2 : p_and (p_shr (I (a0 + 2) x1.toNat) x2) 1 ≠ 0) => 
    b_X3_addJoin_13  (K2 1 (if_pos c2).symm)))
theorem c_X3_include {d : Nat} {I : Nat → Nat → Int} {S : PS} {n0 a0 : Nat} {x1 : Int}
    (v1 : 0 ≤ p_shr x1 5 ∧ p_shr x1 5 < (n0 : Nat)) : Ca d mX3_include [vR (some (0, n0, a0)), vI x1] (I, S) (.inl none) ((up2 I a0 ((p_shr x1 5).toNat) (p_or (I a0 (p_shr x1 5).toNat) (p_shl 1 (p_and x1 31)))), S) :=
  Ca.of rfl rfl (ev_retV rfl (b_X3_include_0 v1 v1))
theorem c_X4_forgetTold {d : Nat} {I : Nat → Nat → Int} {S : PS} (hl0 : LyX4 S) : Ca d mX4_forgetTold [vR (some (15, 0, 147))] (I, S) (.inl none) ((up2 (up2 I 147 6 0) 147 5 (-1)), S) :=
  Ca.of rfl rfl (ev_retV rfl (b_X4_forgetTold_0 ))
theorem c_X4_toldOf {d : Nat} {I : Nat → Nat → Int} {S : PS} {x1 : Int} (hl0 : LyX4 S) : Ca d mX4_toldOf [vR (some (15, 0, 147)), vI x1] (I, S) (.inl (some (vI (if I 147 6 ≠ 0 then ((if x1 = 0 then (I 147 8 : Int) else (if x1 = 1 then (I 147 9 : Int) else (if x1 = 2 then (I 147 10 : Int) else I 147 11))) : Int) else (-1))))) (I, S) :=
  Ca.of rfl rfl (
  b_X4_toldOf_0  (fun (c1 : I 147 6 ≠ 0) => 
    b_X4_toldOf_9  (fun (c3 : x1 = 0) => ev_ret2 ((if_pos c3).symm.trans (if_pos c1).symm) rfl (b_X4_toldOf_36 )) (fun (c4 : x1 = 1) => ev_ret2 (((if_pos c4).symm.trans (if_neg (show x1 ≠ 0 from by omega)).symm).trans (if_pos c1).symm) rfl (b_X4_toldOf_41 )) (fun (c5 : x1 = 2) => ev_ret2 ((((if_pos c5).symm.trans (if_neg (show x1 ≠ 1 from by omega)).symm).trans (if_neg (show x1 ≠ 0 from by omega)).symm).trans (if_pos c1).symm) rfl (b_X4_toldOf_46 )) (fun (c6 : ¬(0 ≤ x1 ∧ x1 ≤ 2)) => ev_ret2 ((((if_neg (show x1 ≠ 2 from by omega)).symm.trans (if_neg (show x1 ≠ 1 from by omega)).symm).trans (if_neg (show x1 ≠ 0 from by omega)).symm).trans (if_pos c1).symm) rfl (b_X4_toldOf_51 ))) (fun (c2 : I 147 6 = 0) => ev_ret2 ((if_neg (fun q => q c2)).symm) rfl (b_X4_toldOf_7 )))
theorem c_X4_numbersOf {d : Nat} {I : Nat → Nat → Int} {S : PS} {x0 : Int} : Ca d mX4_numbersOf [vI x0] (I, S) (.inl (some (vI (if x0 = 0 then (2 : Int) else (if x0 ≠ 2 then ((if x0 = 1 then (1 : Int) else 0) : Int) else 2))))) (I, S) :=
  Ca.of rfl rfl (
  b_X4_numbersOf_0  (fun (c1 : x0 = 0) => ev_ret2 ((if_pos c1).symm) rfl (b_X4_numbersOf_9 )) (fun (c2 : x0 ≠ 0) => 
    b_X4_numbersOf_4  (fun (c3 : x0 ≠ 2) => 
      have K6 : ∀ us0 : Int, us0 = (if x0 = 1 then (1 : Int) else 0) → Ev d mX4_numbersOf (21, [some (vI x0)], [vI us0], (I, S)) ((.inl (some (vI (if x0 = 0 then (2 : Int) else (if x0 ≠ 2 then ((if x0 = 1 then (1 : Int) else 0) : Int) else 2))))), (I, S)) := fun us0 e_us0 => by subst e_us0; exact (ev_ret2 ((if_pos c3).symm.trans (if_neg c2).symm) rfl (b_X4_numbersOf_21 ))
      
      b_X4_numbersOf_11  (fun (c5 : x0 ≠ 1) => 
        b_X4_numbersOf_20  (K6 0 (if_neg c5).symm)) (fun (c6 : x0 = 1) => 
        b_X4_numbersOf_16  (K6 1 (if_pos c6).symm))) (fun (c4 : x0 = 2) => ev_ret2 ((if_neg (fun q => q c4)).symm.trans (if_neg c2).symm) rfl (b_X4_numbersOf_9 ))))
theorem c_X4_lay_y {d : Nat} {I : Nat → Nat → Int} {S : PS} (hl0 : LyX4 S)
    (v1 : (I 147 3 < 8) → -2147483648 ≤ (I 147 3) * 4 ∧ (I 147 3) * 4 ≤ 2147483647)
    (v2 : (I 147 3 < 8) → 0 ≤ (I 147 3) * 4)
    (v3 : (I 147 3 < 8) → (I 147 3) * 4 + 4 ≤ (32 : Nat))
    (v4 : (I 147 3 < 8) → 0 ≤ I 147 3 ∧ I 147 3 < (8 : Nat))
    (v5 : (I 147 3 < 8) → -2147483648 ≤ I 147 4 + 1 ∧ I 147 4 + 1 ≤ 2147483647)
    (v6 : (I 147 3 < 8) → -2147483648 ≤ I 147 3 + 1 ∧ I 147 3 + 1 ≤ 2147483647)
    (hP : I 147 3 < 8) : Ca d mX4_lay [vR (some (15, 0, 147))] (I, S) (.inl (some (vI 1))) ((up2 (up2 (up2 (up2 (cpyI I 149 0 150 (((I 147 3) * 4).toNat) 4) 151 ((I 147 3).toNat) (I 147 4)) 147 4 (I 147 4 + 1)) 147 3 (I 147 3 + 1)) 147 10 (p_max (I 147 10) (I 147 3 + 1))), S) :=
  Ca.of rfl rfl (
  b_X4_lay_0  (fun (c1 : I 147 3 < 8) => ev_ret2 rfl rfl (b_X4_lay_11 (ly_X4_0 hl0) (ly_X2_0 (ly_X4_p hl0)) (ly_X4_1 hl0) (v1 c1) (v2 c1) (by first | decide | exact (show (0 : Int) + 4 ≤ (4 : Nat) from by decide)) (v3 c1) (ly_X4_2 hl0) (v4 c1) (v5 c1) (v6 c1))) (fun (c2 : 8 ≤ I 147 3) => absurd hP (Int.not_lt.mpr c2)))
theorem c_X4_lay_n {d : Nat} {I : Nat → Nat → Int} {S : PS} (hl0 : LyX4 S)
    (v1 : (I 147 3 < 8) → -2147483648 ≤ (I 147 3) * 4 ∧ (I 147 3) * 4 ≤ 2147483647)
    (v2 : (I 147 3 < 8) → 0 ≤ (I 147 3) * 4)
    (v3 : (I 147 3 < 8) → (I 147 3) * 4 + 4 ≤ (32 : Nat))
    (v4 : (I 147 3 < 8) → 0 ≤ I 147 3 ∧ I 147 3 < (8 : Nat))
    (v5 : (I 147 3 < 8) → -2147483648 ≤ I 147 4 + 1 ∧ I 147 4 + 1 ≤ 2147483647)
    (v6 : (I 147 3 < 8) → -2147483648 ≤ I 147 3 + 1 ∧ I 147 3 + 1 ≤ 2147483647)
    (hP : ¬(I 147 3 < 8)) : Ca d mX4_lay [vR (some (15, 0, 147))] (I, S) (.inl (some (vI 0))) (I, S) :=
  Ca.of rfl rfl (
  b_X4_lay_0  (fun (c1 : I 147 3 < 8) => absurd c1 hP) (fun (c2 : 8 ≤ I 147 3) => ev_ret2 rfl rfl (b_X4_lay_9 )))
theorem c_X4_takeOff {d : Nat} {I : Nat → Nat → Int} {S : PS} (hl0 : LyX4 S)
    (v1 : (1 ≤ I 147 3) → -2147483648 ≤ I 147 3 - 1 ∧ I 147 3 - 1 ≤ 2147483647)
    (v2 : (1 ≤ I 147 3) → -2147483648 ≤ (I 147 3 - 1) * 4 ∧ (I 147 3 - 1) * 4 ≤ 2147483647)
    (v3 : (1 ≤ I 147 3) → 0 ≤ (I 147 3 - 1) * 4)
    (v4 : (1 ≤ I 147 3) → (I 147 3 - 1) * 4 + 4 ≤ (32 : Nat))
    (v5 : (1 ≤ I 147 3) → 0 ≤ (I 147 3 - 1) ∧ (I 147 3 - 1) < (8 : Nat)) : Ca d mX4_takeOff [vR (some (15, 0, 147))] (I, S) (.inl none) ((if 1 ≤ I 147 3 then (up2 (cpyI (up2 I 147 3 (I 147 3 - 1)) 150 (((I 147 3 - 1) * 4).toNat) 149 0 4) 147 5 (I 151 (I 147 3 - 1).toNat)) else I), S) :=
  Ca.of rfl rfl (
  b_X4_takeOff_0  (fun (c1 : 1 ≤ I 147 3) => ev_retV (prEq ((if_pos c1).symm) rfl) (b_X4_takeOff_9 (v1 c1) (ly_X4_1 hl0) (v2 c1) (ly_X4_0 hl0) (ly_X2_0 (ly_X4_p hl0)) (v3 c1) (v4 c1) (by first | decide | exact (show (0 : Int) + 4 ≤ (4 : Nat) from by decide)) (ly_X4_2 hl0) (v5 c1))) (fun (c2 : I 147 3 < 1) => ev_retV (prEq ((if_neg (Int.not_le.mpr c2)).symm) rfl) (b_X4_takeOff_8 )))
theorem c_X5_checkNumber {d : Nat} {I : Nat → Nat → Int} {S : PS} {x1 x2 : Int} (hl0 : LyX10 S) : Ca d mX5_checkNumber [vR (some (20, 0, 32)), vI x1, vI x2] (I, S) (.inl (some (vI (if I 32 3 = 2 then ((if I 32 5 < x1 then (2 : Int) else (if I 32 5 ≤ x2 then (0 : Int) else 2)) : Int) else 1)))) (I, S) :=
  Ca.of rfl rfl (
  b_X5_checkNumber_0  (fun (c1 : I 32 3 = 2) => 
    have K6 : ∀ us0 : Int, us0 = (if I 32 5 < x1 then (2 : Int) else (if I 32 5 ≤ x2 then (0 : Int) else 2)) → Ev d mX5_checkNumber (31, [some (vR (some (20, 0, 32))), some (vI x1), some (vI x2)], [vI us0], (I, S)) ((.inl (some (vI (if I 32 3 = 2 then ((if I 32 5 < x1 then (2 : Int) else (if I 32 5 ≤ x2 then (0 : Int) else 2)) : Int) else 1)))), (I, S)) := fun us0 e_us0 => by subst e_us0; exact (ev_ret2 ((if_pos c1).symm) rfl (b_X5_checkNumber_31 ))
    
    b_X5_checkNumber_10  (fun (c3 : I 32 5 < x1) => 
      b_X5_checkNumber_26  (K6 2 ((if_pos c3).symm))) (fun (c4 : x1 ≤ I 32 5) => 
      b_X5_checkNumber_18  (fun (c5 : I 32 5 ≤ x2) => 
        b_X5_checkNumber_30  (K6 0 ((if_pos c5).symm.trans (if_neg (Int.not_lt.mpr c4)).symm))) (fun (c6 : x2 < I 32 5) => 
        b_X5_checkNumber_26  (K6 2 ((if_neg (Int.not_le.mpr c6)).symm.trans (if_neg (Int.not_lt.mpr c4)).symm))))) (fun (c2 : I 32 3 ≠ 2) => ev_ret2 ((if_neg c2).symm) rfl (b_X5_checkNumber_8 )))
theorem c_X6_colourAt {d : Nat} {I : Nat → Nat → Int} {S : PS} {a0 : Nat} {x1 x2 : Int} (hl0 : LyX6 S a0)
    (v1 : -2147483648 ≤ I a0 0 - 1 ∧ I a0 0 - 1 ≤ 2147483647)
    (v2 : -2147483648 ≤ I a0 0 - 1 - x2 ∧ I a0 0 - 1 - x2 ≤ 2147483647)
    (v3 : -2147483648 ≤ 2 * (I a0 0 - 1 - x2) ∧ 2 * (I a0 0 - 1 - x2) ≤ 2147483647) : Ca d mX6_colourAt [vR (some (16, 0, a0)), vI x1, vI x2] (I, S) (.inl (some (vI (p_and (p_shr x1 (2 * (I a0 0 - 1 - x2))) 3)))) (I, S) :=
  Ca.of rfl rfl (ev_ret2 rfl rfl (b_X6_colourAt_0 v1 v2 v3))
theorem c_X6_fenceCount {d : Nat} {I : Nat → Nat → Int} {S : PS} {x0 : Int} : Ca d mX6_fenceCount [vI x0] (I, S) (.inl (some (vI (if 2 < x0 then ((if 4 < x0 then (5 : Int) else 2) : Int) else 1)))) (I, S) :=
  Ca.of rfl rfl (
  have K4 : ∀ us0 : Int, us0 = (if 2 < x0 then ((if 4 < x0 then (5 : Int) else 2) : Int) else 1) → Ev d mX6_fenceCount (19, [some (vI x0)], [vI us0], (I, S)) ((.inl (some (vI (if 2 < x0 then ((if 4 < x0 then (5 : Int) else 2) : Int) else 1)))), (I, S)) := fun us0 e_us0 => by subst e_us0; exact (ev_ret2 rfl rfl (b_X6_fenceCount_19 ))
  
  b_X6_fenceCount_0  (fun (c1 : 2 < x0) => 
    b_X6_fenceCount_9  (fun (c3 : 4 < x0) => 
      b_X6_fenceCount_18  (K4 5 ((if_pos c3).symm.trans (if_pos c1).symm))) (fun (c4 : x0 ≤ 4) => 
      b_X6_fenceCount_14  (K4 2 ((if_neg (Int.not_lt.mpr c4)).symm.trans (if_pos c1).symm)))) (fun (c2 : x0 ≤ 2) => 
    b_X6_fenceCount_5  (K4 1 ((if_neg (Int.not_lt.mpr c2)).symm))))
theorem c_X7_ahead {d : Nat} {I : Nat → Nat → Int} {S : PS} {x0 : Int}
    (v1 : -2147483648 ≤ 6 - x0 ∧ 6 - x0 ≤ 2147483647)
    (v2 : -2147483648 ≤ 10 * (6 - x0) ∧ 10 * (6 - x0) ≤ 2147483647) : Ca d mX7_ahead [vI x0] (I, S) (.inl (some (vI (10 * (6 - x0))))) (I, S) :=
  Ca.of rfl rfl (ev_ret2 rfl rfl (b_X7_ahead_0 v1 v2))
theorem c_X7_keepRule {d : Nat} {I : Nat → Nat → Int} {S : PS} {a0 : Nat} (hl0 : LyX7 S a0)
    (v1 : -2147483648 ≤ I a0 0 + 1 ∧ I a0 0 + 1 ≤ 2147483647) : Ca d mX7_keepRule [vR (some (17, 0, a0))] (I, S) (.inl (some (vI 0))) ((up2 I a0 0 (I a0 0 + 1)), S) :=
  Ca.of rfl rfl (ev_ret2 rfl rfl (b_X7_keepRule_0 v1))
theorem c_X7_tell {d : Nat} {I : Nat → Nat → Int} {S : PS} {a0 : Nat} {x1 x2 : Int} (hl0 : LyX7 S a0)
    (v1 : -2147483648 ≤ (I a0 0) * 8 ∧ (I a0 0) * 8 ≤ 2147483647)
    (v2 : -2147483648 ≤ ((I a0 0) * 8) + x1 ∧ ((I a0 0) * 8) + x1 ≤ 2147483647)
    (v3 : 0 ≤ ((I a0 0) * 8) + x1 ∧ ((I a0 0) * 8) + x1 < (48 : Nat)) : Ca d mX7_tell [vR (some (17, 0, a0)), vI x1, vI x2] (I, S) (.inl none) ((up2 I (a0 + 1) ((((I a0 0) * 8) + x1).toNat) x2), S) :=
  Ca.of rfl rfl (ev_retV rfl (b_X7_tell_0 (ly_X7_1 hl0) v1 v2 v3))
theorem c_X8_begin {d : Nat} {I : Nat → Nat → Int} {S : PS} {a1 : Nat} (hl0 : LyX8 S) (hl1 : LyX2 S a1) : Ca (d + 1) mX8_begin [vR (some (18, 0, 144)), vR (some (13, 0, a1))] (I, S) (.inl none) ((cpyI I (a1 + 1) 0 (145 + 1) 0 4), S) :=
  Ca.of rfl rfl (
  b_X8_begin_0 (ly_X8_0 hl0) (c_X2_copyFrom (ly_X8_p hl0) hl1) (ev_retV rfl (b_X8_begin_8 )))
theorem c_X8_stirred {d : Nat} {I : Nat → Nat → Int} {S : PS} {x0 : Int} : Ca d mX8_stirred [vI x0] (I, S) (.inl (some (vI (p_add (p_mul x0 1103515245) 12345)))) (I, S) :=
  Ca.of rfl rfl (ev_ret2 rfl rfl (b_X8_stirred_0 ))
theorem c_X8_drawn {d : Nat} {I : Nat → Nat → Int} {S : PS} {x0 x1 : Int}
    (v1 : (0 < x1) → (0 ≤ p_and (p_shr x0 16) 32767 ∧ p_and (p_shr x0 16) 32767 ≤ 2147483647) ∧ 0 < x1 ∧ x1 ≤ 2147483647) : Ca d mX8_drawn [vI x0, vI x1] (I, S) (.inl (some (vI (if x1 ≤ 0 then (0 : Int) else (p_and (p_shr x0 16) 32767) % x1)))) (I, S) :=
  Ca.of rfl rfl (
  have K2 : ∀ us0 : Int, us0 = (if x1 ≤ 0 then (0 : Int) else (p_and (p_shr x0 16) 32767) % x1) → Ev d mX8_drawn (18, [some (vI x0), some (vI x1)], [vI us0], (I, S)) ((.inl (some (vI (if x1 ≤ 0 then (0 : Int) else (p_and (p_shr x0 16) 32767) % x1)))), (I, S)) := fun us0 e_us0 => by subst e_us0; exact (ev_ret2 rfl rfl (b_X8_drawn_18 ))
  
  b_X8_drawn_0  (fun (c1 : x1 ≤ 0) => 
    b_X8_drawn_17  (K2 0 ((if_pos c1).symm))) (fun (c2 : 0 < x1) => 
    b_X8_drawn_4 (v1 c2) (K2 ((p_and (p_shr x0 16) 32767) % x1) ((if_neg (Int.not_le.mpr c2)).symm))))
theorem c_X9_dropOldestAct {d : Nat} {I : Nat → Nat → Int} {S : PS} (hl0 : LyX9 S 126) : Ca d mX9_dropOldestAct [vR (some (19, 0, 126))] (I, S) (.inl none) ((up2 (cpyI (cpyI (cpyI I 130 1 130 0 29) 131 1 131 0 29) 132 1 132 0 29) 126 2 29), S) :=
  Ca.of rfl rfl (ev_retV rfl (b_X9_dropOldestAct_0 (ly_X9_3 hl0) (by first | decide | exact (show (1 : Int) + 29 ≤ (30 : Nat) from by decide)) (by first | decide | exact (show (0 : Int) + 29 ≤ (30 : Nat) from by decide)) (ly_X9_4 hl0) (by first | decide | exact (show (1 : Int) + 29 ≤ (30 : Nat) from by decide)) (by first | decide | exact (show (0 : Int) + 29 ≤ (30 : Nat) from by decide)) (ly_X9_5 hl0) (by first | decide | exact (show (1 : Int) + 29 ≤ (30 : Nat) from by decide)) (by first | decide | exact (show (0 : Int) + 29 ≤ (30 : Nat) from by decide))))
theorem c_X9_undoLast {d : Nat} {I : Nat → Nat → Int} {S : PS} (hl0 : LyX9 S 126)
    (v1 : (1 ≤ I 126 2) → -2147483648 ≤ I 126 2 - 1 ∧ I 126 2 - 1 ≤ 2147483647)
    (v2 : (1 ≤ I 126 2) → 0 ≤ (I 126 2 - 1) ∧ (I 126 2 - 1) < (30 : Nat))
    (v3 : (1 ≤ I 126 2) → (I 130 (I 126 2 - 1).toNat = 0) → 0 ≤ (I 132 (I 126 2 - 1).toNat) ∧ (I 132 (I 126 2 - 1).toNat) < 4)
    (v4 : (1 ≤ I 126 2) → (I 130 (I 126 2 - 1).toNat = 1) → 0 ≤ (I 132 (I 126 2 - 1).toNat) ∧ (I 132 (I 126 2 - 1).toNat) < 4)
    (v5 : (1 ≤ I 126 2) → (I 130 (I 126 2 - 1).toNat = 2) → (0 ≤ I 132 (I 126 2 - 1).toNat ∧ I 132 (I 126 2 - 1).toNat ≤ 2147483647) ∧ 0 < (4 : Int) ∧ (4 : Int) ≤ 2147483647)
    (v6 : (1 ≤ I 126 2) → (I 130 (I 126 2 - 1).toNat = 2) → 0 ≤ ((I 132 (I 126 2 - 1).toNat) / 4) ∧ ((I 132 (I 126 2 - 1).toNat) / 4) < (4 : Nat))
    (v7 : (1 ≤ I 126 2) → (I 130 (I 126 2 - 1).toNat = 2) → 0 ≤ ((I 132 (I 126 2 - 1).toNat) % 4) ∧ ((I 132 (I 126 2 - 1).toNat) % 4) < (4 : Nat))
    (v8 : (1 ≤ I 126 2) → (¬(0 ≤ I 130 (I 126 2 - 1).toNat ∧ I 130 (I 126 2 - 1).toNat ≤ 2)) → 0 ≤ I 131 (I 126 2 - 1).toNat ∧ I 131 (I 126 2 - 1).toNat < (6 : Nat)) : Ca (d + 1) mX9_undoLast [vR (some (19, 0, 126))] (I, S) (.inl none) ((if 1 ≤ I 126 2 then (if I 130 (I 126 2 - 1).toNat = 0 then (up2 (up2 I 126 2 (I 126 2 - 1)) (127 + 1) ((I 132 (I 126 2 - 1).toNat).toNat) (p_and ((up2 I 126 2 (I 126 2 - 1)) (127 + 1) (I 132 (I 126 2 - 1).toNat).toNat) (p_xor (p_shl 1 (I 131 (I 126 2 - 1).toNat)) (-1)))) else (if I 130 (I 126 2 - 1).toNat = 1 then (up2 (up2 I 126 2 (I 126 2 - 1)) (127 + 1) ((I 132 (I 126 2 - 1).toNat).toNat) (p_or ((up2 I 126 2 (I 126 2 - 1)) (127 + 1) (I 132 (I 126 2 - 1).toNat).toNat) (p_shl 1 (I 131 (I 126 2 - 1).toNat)))) else (if I 130 (I 126 2 - 1).toNat = 2 then (up2 (up2 (up2 I 126 2 (I 126 2 - 1)) (127 + 1) (((I 132 (I 126 2 - 1).toNat) / 4).toNat) (p_or (p_and ((up2 I 126 2 (I 126 2 - 1)) (127 + 1) ((I 132 (I 126 2 - 1).toNat) / 4).toNat) (p_xor (I 131 (I 126 2 - 1).toNat) (-1))) (p_and ((up2 I 126 2 (I 126 2 - 1)) (127 + 1) ((I 132 (I 126 2 - 1).toNat) % 4).toNat) (I 131 (I 126 2 - 1).toNat)))) (127 + 1) (((I 132 (I 126 2 - 1).toNat) % 4).toNat) (p_or (p_and ((up2 (up2 I 126 2 (I 126 2 - 1)) (127 + 1) (((I 132 (I 126 2 - 1).toNat) / 4).toNat) (p_or (p_and ((up2 I 126 2 (I 126 2 - 1)) (127 + 1) ((I 132 (I 126 2 - 1).toNat) / 4).toNat) (p_xor (I 131 (I 126 2 - 1).toNat) (-1))) (p_and ((up2 I 126 2 (I 126 2 - 1)) (127 + 1) ((I 132 (I 126 2 - 1).toNat) % 4).toNat) (I 131 (I 126 2 - 1).toNat)))) (127 + 1) ((I 132 (I 126 2 - 1).toNat) % 4).toNat) (p_xor (I 131 (I 126 2 - 1).toNat) (-1))) (p_and ((up2 I 126 2 (I 126 2 - 1)) (127 + 1) ((I 132 (I 126 2 - 1).toNat) / 4).toNat) (I 131 (I 126 2 - 1).toNat)))) else (up2 (up2 I 126 2 (I 126 2 - 1)) 129 ((I 131 (I 126 2 - 1).toNat).toNat) (I 132 (I 126 2 - 1).toNat))))) else I), S) :=
  Ca.of rfl rfl (
  b_X9_undoLast_0  (fun (c1 : 1 ≤ I 126 2) => 
    b_X9_undoLast_9 (v1 c1) (ly_X9_4 hl0) (v2 c1) (ly_X9_5 hl0) (v2 c1) (ly_X9_3 hl0) (v2 c1) (fun (c3 : I 130 (I 126 2 - 1).toNat = 0) => 
      b_X9_undoLast_76 (ly_X9_0 hl0) (c_X2_take (ly_X9_p hl0) (v3 c1 c3)) (
      b_X9_undoLast_85  (ev_retV (prEq ((if_pos c3).symm.trans (if_pos c1).symm) rfl) (b_X9_undoLast_124 )))) (fun (c4 : I 130 (I 126 2 - 1).toNat = 1) => 
      b_X9_undoLast_88 (ly_X9_0 hl0) (c_X2_put (ly_X9_p hl0) (v4 c1 c4)) (
      b_X9_undoLast_97  (ev_retV (prEq (((if_pos c4).symm.trans (if_neg (show I 130 (I 126 2 - 1).toNat ≠ 0 from by omega)).symm).trans (if_pos c1).symm) rfl) (b_X9_undoLast_124 )))) (fun (c5 : I 130 (I 126 2 - 1).toNat = 2) => 
      b_X9_undoLast_100 (ly_X9_0 hl0) (v5 c1 c5) (v5 c1 c5) (c_X2_exchange (ly_X9_p hl0) (v6 c1 c5) (v7 c1 c5)) (
      b_X9_undoLast_114  (ev_retV (prEq ((((if_pos c5).symm.trans (if_neg (show I 130 (I 126 2 - 1).toNat ≠ 1 from by omega)).symm).trans (if_neg (show I 130 (I 126 2 - 1).toNat ≠ 0 from by omega)).symm).trans (if_pos c1).symm) rfl) (b_X9_undoLast_124 )))) (fun (c6 : ¬(0 ≤ I 130 (I 126 2 - 1).toNat ∧ I 130 (I 126 2 - 1).toNat ≤ 2)) => 
      b_X9_undoLast_117 (ly_X9_1 hl0) (v8 c1 c6) (ev_retV (prEq ((((if_neg (show I 130 (I 126 2 - 1).toNat ≠ 2 from by omega)).symm.trans (if_neg (show I 130 (I 126 2 - 1).toNat ≠ 1 from by omega)).symm).trans (if_neg (show I 130 (I 126 2 - 1).toNat ≠ 0 from by omega)).symm).trans (if_pos c1).symm) rfl) (b_X9_undoLast_124 )))) (fun (c2 : I 126 2 < 1) => ev_retV (prEq ((if_neg (Int.not_le.mpr c2)).symm) rfl) (b_X9_undoLast_8 )))
theorem c_X9_keepNote {d : Nat} {I : Nat → Nat → Int} {S : PS} {x1 x2 : Int} (hl0 : LyX9 S 126)
    (v1 : (I 126 6 < 8) → 0 ≤ I 126 6 ∧ I 126 6 < (8 : Nat))
    (v2 : (I 126 6 < 8) → -2147483648 ≤ I 126 6 + 1 ∧ I 126 6 + 1 ≤ 2147483647) : Ca d mX9_keepNote [vR (some (19, 0, 126)), vI x1, vI x2] (I, S) (.inl none) ((if 8 ≤ I 126 6 then I else (up2 (up2 (up2 I 133 ((I 126 6).toNat) x1) 134 ((I 126 6).toNat) x2) 126 6 (I 126 6 + 1))), S) :=
  Ca.of rfl rfl (
  b_X9_keepNote_0  (fun (c1 : 8 ≤ I 126 6) => ev_retV (prEq ((if_pos c1).symm) rfl) (b_X9_keepNote_39 )) (fun (c2 : I 126 6 < 8) => 
    b_X9_keepNote_9 (ly_X9_7 hl0) (v1 c2) (ly_X9_8 hl0) (v1 c2) (v2 c2) (ev_retV (prEq ((if_neg (Int.not_le.mpr c2)).symm) rfl) (b_X9_keepNote_39 ))))
theorem c_X10_begin {d : Nat} {I : Nat → Nat → Int} {S : PS} {x1 : Int} (hl0 : LyX10 S) : Ca d mX10_begin [vR (some (20, 0, 32)), vI x1] (I, S) (.inl none) ((up2 (up2 I 32 1 (p_min x1 700)) 32 2 0), S) :=
  Ca.of rfl rfl (ev_retV rfl (b_X10_begin_0 ))
theorem c_X11_fault {d : Nat} {I : Nat → Nat → Int} {S : PS} {T U : Nat} (hl0 : LyX11 S T U) : Ca d mX11_fault [vR (some (21, 0, 31))] (I, S) (.inl (some (vI (I 31 15)))) (I, S) :=
  Ca.of rfl rfl (ev_ret2 rfl rfl (b_X11_fault_0 ))
theorem c_X11_undo {d : Nat} {I : Nat → Nat → Int} {S : PS} {T U : Nat} (hl0 : LyX11 S T U)
    (v1 : (I 126 2 ≠ 0) → (1 ≤ I 126 2) → -2147483648 ≤ I 126 2 - 1 ∧ I 126 2 - 1 ≤ 2147483647)
    (v2 : (I 126 2 ≠ 0) → (1 ≤ I 126 2) → 0 ≤ (I 126 2 - 1) ∧ (I 126 2 - 1) < (30 : Nat))
    (v3 : (I 126 2 ≠ 0) → (1 ≤ I 126 2) → (I 130 (I 126 2 - 1).toNat = 0) → 0 ≤ (I 132 (I 126 2 - 1).toNat) ∧ (I 132 (I 126 2 - 1).toNat) < 4)
    (v4 : (I 126 2 ≠ 0) → (1 ≤ I 126 2) → (I 130 (I 126 2 - 1).toNat = 1) → 0 ≤ (I 132 (I 126 2 - 1).toNat) ∧ (I 132 (I 126 2 - 1).toNat) < 4)
    (v5 : (I 126 2 ≠ 0) → (1 ≤ I 126 2) → (I 130 (I 126 2 - 1).toNat = 2) → (0 ≤ I 132 (I 126 2 - 1).toNat ∧ I 132 (I 126 2 - 1).toNat ≤ 2147483647) ∧ 0 < (4 : Int) ∧ (4 : Int) ≤ 2147483647)
    (v6 : (I 126 2 ≠ 0) → (1 ≤ I 126 2) → (I 130 (I 126 2 - 1).toNat = 2) → 0 ≤ ((I 132 (I 126 2 - 1).toNat) / 4) ∧ ((I 132 (I 126 2 - 1).toNat) / 4) < (4 : Nat))
    (v7 : (I 126 2 ≠ 0) → (1 ≤ I 126 2) → (I 130 (I 126 2 - 1).toNat = 2) → 0 ≤ ((I 132 (I 126 2 - 1).toNat) % 4) ∧ ((I 132 (I 126 2 - 1).toNat) % 4) < (4 : Nat))
    (v8 : (I 126 2 ≠ 0) → (1 ≤ I 126 2) → (¬(0 ≤ I 130 (I 126 2 - 1).toNat ∧ I 130 (I 126 2 - 1).toNat ≤ 2)) → 0 ≤ I 131 (I 126 2 - 1).toNat ∧ I 131 (I 126 2 - 1).toNat < (6 : Nat)) : Ca (d + 2) mX11_undo [vR (some (21, 0, 31))] (I, S) (.inl (some (vI (if I 126 2 ≠ 0 then ((if 1 ≤ I 126 2 then (if I 130 (I 126 2 - 1).toNat = 0 then (up2 (up2 I 126 2 (I 126 2 - 1)) (127 + 1) ((I 132 (I 126 2 - 1).toNat).toNat) (p_and ((up2 I 126 2 (I 126 2 - 1)) (127 + 1) (I 132 (I 126 2 - 1).toNat).toNat) (p_xor (p_shl 1 (I 131 (I 126 2 - 1).toNat)) (-1)))) else (if I 130 (I 126 2 - 1).toNat = 1 then (up2 (up2 I 126 2 (I 126 2 - 1)) (127 + 1) ((I 132 (I 126 2 - 1).toNat).toNat) (p_or ((up2 I 126 2 (I 126 2 - 1)) (127 + 1) (I 132 (I 126 2 - 1).toNat).toNat) (p_shl 1 (I 131 (I 126 2 - 1).toNat)))) else (if I 130 (I 126 2 - 1).toNat = 2 then (up2 (up2 (up2 I 126 2 (I 126 2 - 1)) (127 + 1) (((I 132 (I 126 2 - 1).toNat) / 4).toNat) (p_or (p_and ((up2 I 126 2 (I 126 2 - 1)) (127 + 1) ((I 132 (I 126 2 - 1).toNat) / 4).toNat) (p_xor (I 131 (I 126 2 - 1).toNat) (-1))) (p_and ((up2 I 126 2 (I 126 2 - 1)) (127 + 1) ((I 132 (I 126 2 - 1).toNat) % 4).toNat) (I 131 (I 126 2 - 1).toNat)))) (127 + 1) (((I 132 (I 126 2 - 1).toNat) % 4).toNat) (p_or (p_and ((up2 (up2 I 126 2 (I 126 2 - 1)) (127 + 1) (((I 132 (I 126 2 - 1).toNat) / 4).toNat) (p_or (p_and ((up2 I 126 2 (I 126 2 - 1)) (127 + 1) ((I 132 (I 126 2 - 1).toNat) / 4).toNat) (p_xor (I 131 (I 126 2 - 1).toNat) (-1))) (p_and ((up2 I 126 2 (I 126 2 - 1)) (127 + 1) ((I 132 (I 126 2 - 1).toNat) % 4).toNat) (I 131 (I 126 2 - 1).toNat)))) (127 + 1) ((I 132 (I 126 2 - 1).toNat) % 4).toNat) (p_xor (I 131 (I 126 2 - 1).toNat) (-1))) (p_and ((up2 I 126 2 (I 126 2 - 1)) (127 + 1) ((I 132 (I 126 2 - 1).toNat) / 4).toNat) (I 131 (I 126 2 - 1).toNat)))) else (up2 (up2 I 126 2 (I 126 2 - 1)) 129 ((I 131 (I 126 2 - 1).toNat).toNat) (I 132 (I 126 2 - 1).toNat))))) else I) 126 2 : Int) else (-1))))) ((if I 126 2 ≠ 0 then (if 1 ≤ I 126 2 then (if I 130 (I 126 2 - 1).toNat = 0 then (up2 (up2 I 126 2 (I 126 2 - 1)) (127 + 1) ((I 132 (I 126 2 - 1).toNat).toNat) (p_and ((up2 I 126 2 (I 126 2 - 1)) (127 + 1) (I 132 (I 126 2 - 1).toNat).toNat) (p_xor (p_shl 1 (I 131 (I 126 2 - 1).toNat)) (-1)))) else (if I 130 (I 126 2 - 1).toNat = 1 then (up2 (up2 I 126 2 (I 126 2 - 1)) (127 + 1) ((I 132 (I 126 2 - 1).toNat).toNat) (p_or ((up2 I 126 2 (I 126 2 - 1)) (127 + 1) (I 132 (I 126 2 - 1).toNat).toNat) (p_shl 1 (I 131 (I 126 2 - 1).toNat)))) else (if I 130 (I 126 2 - 1).toNat = 2 then (up2 (up2 (up2 I 126 2 (I 126 2 - 1)) (127 + 1) (((I 132 (I 126 2 - 1).toNat) / 4).toNat) (p_or (p_and ((up2 I 126 2 (I 126 2 - 1)) (127 + 1) ((I 132 (I 126 2 - 1).toNat) / 4).toNat) (p_xor (I 131 (I 126 2 - 1).toNat) (-1))) (p_and ((up2 I 126 2 (I 126 2 - 1)) (127 + 1) ((I 132 (I 126 2 - 1).toNat) % 4).toNat) (I 131 (I 126 2 - 1).toNat)))) (127 + 1) (((I 132 (I 126 2 - 1).toNat) % 4).toNat) (p_or (p_and ((up2 (up2 I 126 2 (I 126 2 - 1)) (127 + 1) (((I 132 (I 126 2 - 1).toNat) / 4).toNat) (p_or (p_and ((up2 I 126 2 (I 126 2 - 1)) (127 + 1) ((I 132 (I 126 2 - 1).toNat) / 4).toNat) (p_xor (I 131 (I 126 2 - 1).toNat) (-1))) (p_and ((up2 I 126 2 (I 126 2 - 1)) (127 + 1) ((I 132 (I 126 2 - 1).toNat) % 4).toNat) (I 131 (I 126 2 - 1).toNat)))) (127 + 1) ((I 132 (I 126 2 - 1).toNat) % 4).toNat) (p_xor (I 131 (I 126 2 - 1).toNat) (-1))) (p_and ((up2 I 126 2 (I 126 2 - 1)) (127 + 1) ((I 132 (I 126 2 - 1).toNat) / 4).toNat) (I 131 (I 126 2 - 1).toNat)))) else (up2 (up2 I 126 2 (I 126 2 - 1)) 129 ((I 131 (I 126 2 - 1).toNat).toNat) (I 132 (I 126 2 - 1).toNat))))) else I) else I), S) :=
  Ca.of rfl rfl (
  b_X11_undo_0 (ly_X11_6 hl0) (fun (c1 : I 126 2 ≠ 0) => 
    b_X11_undo_12 (ly_X11_6 hl0) (c_X9_undoLast (ly_X11_s hl0) (v1 c1) (v2 c1) (v3 c1) (v4 c1) (v5 c1) (v6 c1) (v7 c1) (v8 c1)) (ev_ret2 ((if_pos c1).symm) (prEq ((if_pos c1).symm) rfl) (b_X11_undo_19 (ly_X11_6 hl0)))) (fun (c2 : I 126 2 = 0) => ev_ret2 ((if_neg (fun q => q c2)).symm) (prEq ((if_neg (fun q => q c2)).symm) rfl) (b_X11_undo_10 )))
theorem c_X11_forget {d : Nat} {I : Nat → Nat → Int} {S : PS} {T U : Nat} (hl0 : LyX11 S T U) : Ca d mX11_forget [vR (some (21, 0, 31))] (I, S) (.inl none) ((up2 I 126 6 0), S) :=
  Ca.of rfl rfl (ev_retV rfl (b_X11_forget_0 (ly_X11_6 hl0)))
theorem c_X11_refusedAct {d : Nat} {I : Nat → Nat → Int} {S : PS} {T U : Nat} (hl0 : LyX11 S T U)
    (v1 : -2147483648 ≤ I 155 1 + 1 ∧ I 155 1 + 1 ≤ 2147483647) : Ca d mX11_refusedAct [vR (some (21, 0, 31))] (I, S) (.inl (some (vI (-1)))) ((up2 I 155 1 (I 155 1 + 1)), S) :=
  Ca.of rfl rfl (ev_ret2 rfl rfl (b_X11_refusedAct_0 (ly_X11_14 hl0) (by decide) v1 (by decide)))
theorem c_X11_isDegree {d : Nat} {I : Nat → Nat → Int} {S : PS} {x0 : Int} : Ca d mX11_isDegree [vI x0] (I, S) (.inl (some (vI (if (3 ≤ x0) ∧ (x0 ≤ 9) then (1 : Int) else 0)))) (I, S) :=
  Ca.of rfl rfl (
  have K4 : ∀ us0 : Int, us0 = (if (3 ≤ x0) ∧ (x0 ≤ 9) then (1 : Int) else 0) → Ev d mX11_isDegree (16, [some (vI x0)], [vI us0], (I, S)) ((.inl (some (vI (if (3 ≤ x0) ∧ (x0 ≤ 9) then (1 : Int) else 0)))), (I, S)) := fun us0 e_us0 => by subst e_us0; exact (ev_ret2 rfl rfl (b_X11_isDegree_16 (ite01 _)))
  
  b_X11_isDegree_0  (fun (c1 : x0 < 3) => 
    b_X11_isDegree_15  (K4 0 (if_neg (fun q => (Int.not_le.mpr c1) q.1)).symm)) (fun (c2 : 3 ≤ x0) => 
    b_X11_isDegree_5  (fun (c3 : 9 < x0) => 
      b_X11_isDegree_15  (K4 0 (if_neg (fun q => (Int.not_le.mpr c3) q.2)).symm)) (fun (c4 : x0 ≤ 9) => 
      b_X11_isDegree_11  (K4 1 (if_pos ⟨c2, c4⟩).symm))))
theorem c_X12_thrown {d : Nat} {I : Nat → Nat → Int} {S : PS} (hl0 : LyX12 S) : Ca d mX12_thrown [vR (some (22, 0, 156))] (I, S) (.inl (some (vI (I 156 0)))) (I, S) :=
  Ca.of rfl rfl (ev_ret2 rfl rfl (b_X12_thrown_0 ))
theorem c_X12_within {d : Nat} {I : Nat → Nat → Int} {S : PS} {x0 x1 x2 : Int} : Ca d mX12_within [vI x0, vI x1, vI x2] (I, S) (.inl (some (vI (if (x1 ≤ x0) ∧ (x0 ≤ x2) then (1 : Int) else 0)))) (I, S) :=
  Ca.of rfl rfl (
  have K4 : ∀ us0 : Int, us0 = (if (x1 ≤ x0) ∧ (x0 ≤ x2) then (1 : Int) else 0) → Ev d mX12_within (15, [some (vI x0), some (vI x1), some (vI x2)], [vI us0], (I, S)) ((.inl (some (vI (if (x1 ≤ x0) ∧ (x0 ≤ x2) then (1 : Int) else 0)))), (I, S)) := fun us0 e_us0 => by subst e_us0; exact (ev_ret2 rfl rfl (b_X12_within_15 (ite01 _)))
  
  b_X12_within_0  (fun (c1 : x0 < x1) => 
    b_X12_within_14  (K4 0 (if_neg (fun q => (Int.not_le.mpr c1) q.1)).symm)) (fun (c2 : x1 ≤ x0) => 
    b_X12_within_5  (fun (c3 : x2 < x0) => 
      b_X12_within_14  (K4 0 (if_neg (fun q => (Int.not_le.mpr c3) q.2)).symm)) (fun (c4 : x0 ≤ x2) => 
      b_X12_within_10  (K4 1 (if_pos ⟨c2, c4⟩).symm))))
theorem c_X12_isLetter {d : Nat} {I : Nat → Nat → Int} {S : PS} {x0 : Int} : Ca d mX12_isLetter [vI x0] (I, S) (.inl (some (vI (if (97 ≤ x0) ∧ (x0 ≤ 122) then (1 : Int) else 0)))) (I, S) :=
  Ca.of rfl rfl (
  have K4 : ∀ us0 : Int, us0 = (if (97 ≤ x0) ∧ (x0 ≤ 122) then (1 : Int) else 0) → Ev d mX12_isLetter (17, [some (vI x0)], [vI us0], (I, S)) ((.inl (some (vI (if (97 ≤ x0) ∧ (x0 ≤ 122) then (1 : Int) else 0)))), (I, S)) := fun us0 e_us0 => by subst e_us0; exact (ev_ret2 rfl rfl (b_X12_isLetter_17 (ite01 _)))
  
  b_X12_isLetter_0  (fun (c1 : x0 < 97) => 
    b_X12_isLetter_16  (K4 0 (if_neg (fun q => (Int.not_le.mpr c1) q.1)).symm)) (fun (c2 : 97 ≤ x0) => 
    b_X12_isLetter_6  (fun (c3 : 122 < x0) => 
      b_X12_isLetter_16  (K4 0 (if_neg (fun q => (Int.not_le.mpr c3) q.2)).symm)) (fun (c4 : x0 ≤ 122) => 
      b_X12_isLetter_12  (K4 1 (if_pos ⟨c2, c4⟩).symm))))
theorem c_X12_isDigit {d : Nat} {I : Nat → Nat → Int} {S : PS} {x0 : Int} : Ca d mX12_isDigit [vI x0] (I, S) (.inl (some (vI (if (48 ≤ x0) ∧ (x0 ≤ 57) then (1 : Int) else 0)))) (I, S) :=
  Ca.of rfl rfl (
  have K4 : ∀ us0 : Int, us0 = (if (48 ≤ x0) ∧ (x0 ≤ 57) then (1 : Int) else 0) → Ev d mX12_isDigit (17, [some (vI x0)], [vI us0], (I, S)) ((.inl (some (vI (if (48 ≤ x0) ∧ (x0 ≤ 57) then (1 : Int) else 0)))), (I, S)) := fun us0 e_us0 => by subst e_us0; exact (ev_ret2 rfl rfl (b_X12_isDigit_17 (ite01 _)))
  
  b_X12_isDigit_0  (fun (c1 : x0 < 48) => 
    b_X12_isDigit_16  (K4 0 (if_neg (fun q => (Int.not_le.mpr c1) q.1)).symm)) (fun (c2 : 48 ≤ x0) => 
    b_X12_isDigit_6  (fun (c3 : 57 < x0) => 
      b_X12_isDigit_16  (K4 0 (if_neg (fun q => (Int.not_le.mpr c3) q.2)).symm)) (fun (c4 : x0 ≤ 57) => 
      b_X12_isDigit_12  (K4 1 (if_pos ⟨c2, c4⟩).symm))))
theorem c0_X12_spelled {d : Nat} {I : Nat → Nat → Int} {S : PS} {x0 x1 x2 x3 x4 : Int}
    (v1 : -2147483648 ≤ x1 - 96 ∧ x1 - 96 ≤ 2147483647)
    (v2 : (x2 ≠ 0) → -2147483648 ≤ x2 - 96 ∧ x2 - 96 ≤ 2147483647)
    (v3 : (x3 ≠ 0) → -2147483648 ≤ x3 - 96 ∧ x3 - 96 ≤ 2147483647)
    (v4 : (x4 ≠ 0) → -2147483648 ≤ x4 - 96 ∧ x4 - 96 ≤ 2147483647) : Ca d mX12_spelled [vI x0, vI x1, vI x2, vI x3, vI x4] (I, S) (.inl (some (vL (if x4 = 0 then ((if x3 = 0 then ((if x2 = 0 then (p_lor (p_lshl (p_lsub (p_i2l x0) 96) 5) (p_i2l (x1 - 96)) : Int) else p_lor (p_lshl (p_lor (p_lshl (p_lsub (p_i2l x0) 96) 5) (p_i2l (x1 - 96))) 5) (p_i2l (x2 - 96))) : Int) else p_lor (p_lshl (if x2 = 0 then (p_lor (p_lshl (p_lsub (p_i2l x0) 96) 5) (p_i2l (x1 - 96)) : Int) else p_lor (p_lshl (p_lor (p_lshl (p_lsub (p_i2l x0) 96) 5) (p_i2l (x1 - 96))) 5) (p_i2l (x2 - 96))) 5) (p_i2l (x3 - 96))) : Int) else p_lor (p_lshl (if x3 = 0 then ((if x2 = 0 then (p_lor (p_lshl (p_lsub (p_i2l x0) 96) 5) (p_i2l (x1 - 96)) : Int) else p_lor (p_lshl (p_lor (p_lshl (p_lsub (p_i2l x0) 96) 5) (p_i2l (x1 - 96))) 5) (p_i2l (x2 - 96))) : Int) else p_lor (p_lshl (if x2 = 0 then (p_lor (p_lshl (p_lsub (p_i2l x0) 96) 5) (p_i2l (x1 - 96)) : Int) else p_lor (p_lshl (p_lor (p_lshl (p_lsub (p_i2l x0) 96) 5) (p_i2l (x1 - 96))) 5) (p_i2l (x2 - 96))) 5) (p_i2l (x3 - 96))) 5) (p_i2l (x4 - 96)))))) (I, S) :=
  Ca.of rfl rfl (
  have K2 : ∀ u5 : Int, u5 = (if x2 = 0 then (p_lor (p_lshl (p_lsub (p_i2l x0) 96) 5) (p_i2l (x1 - 96)) : Int) else p_lor (p_lshl (p_lor (p_lshl (p_lsub (p_i2l x0) 96) 5) (p_i2l (x1 - 96))) 5) (p_i2l (x2 - 96))) → Ev d mX12_spelled (32, [some (vI x0), some (vI x1), some (vI x2), some (vI x3), some (vI x4), some (vL u5), none], [], (I, S)) ((.inl (some (vL (if x4 = 0 then ((if x3 = 0 then ((if x2 = 0 then (p_lor (p_lshl (p_lsub (p_i2l x0) 96) 5) (p_i2l (x1 - 96)) : Int) else p_lor (p_lshl (p_lor (p_lshl (p_lsub (p_i2l x0) 96) 5) (p_i2l (x1 - 96))) 5) (p_i2l (x2 - 96))) : Int) else p_lor (p_lshl (if x2 = 0 then (p_lor (p_lshl (p_lsub (p_i2l x0) 96) 5) (p_i2l (x1 - 96)) : Int) else p_lor (p_lshl (p_lor (p_lshl (p_lsub (p_i2l x0) 96) 5) (p_i2l (x1 - 96))) 5) (p_i2l (x2 - 96))) 5) (p_i2l (x3 - 96))) : Int) else p_lor (p_lshl (if x3 = 0 then ((if x2 = 0 then (p_lor (p_lshl (p_lsub (p_i2l x0) 96) 5) (p_i2l (x1 - 96)) : Int) else p_lor (p_lshl (p_lor (p_lshl (p_lsub (p_i2l x0) 96) 5) (p_i2l (x1 - 96))) 5) (p_i2l (x2 - 96))) : Int) else p_lor (p_lshl (if x2 = 0 then (p_lor (p_lshl (p_lsub (p_i2l x0) 96) 5) (p_i2l (x1 - 96)) : Int) else p_lor (p_lshl (p_lor (p_lshl (p_lsub (p_i2l x0) 96) 5) (p_i2l (x1 - 96))) 5) (p_i2l (x2 - 96))) 5) (p_i2l (x3 - 96))) 5) (p_i2l (x4 - 96)))))), (I, S)) := fun u5 e_u5 => by subst e_u5; exact (
    have K5 : ∀ u5 : Int, u5 = (if x3 = 0 then ((if x2 = 0 then (p_lor (p_lshl (p_lsub (p_i2l x0) 96) 5) (p_i2l (x1 - 96)) : Int) else p_lor (p_lshl (p_lor (p_lshl (p_lsub (p_i2l x0) 96) 5) (p_i2l (x1 - 96))) 5) (p_i2l (x2 - 96))) : Int) else p_lor (p_lshl (if x2 = 0 then (p_lor (p_lshl (p_lsub (p_i2l x0) 96) 5) (p_i2l (x1 - 96)) : Int) else p_lor (p_lshl (p_lor (p_lshl (p_lsub (p_i2l x0) 96) 5) (p_i2l (x1 - 96))) 5) (p_i2l (x2 - 96))) 5) (p_i2l (x3 - 96))) → Ev d mX12_spelled (48, [some (vI x0), some (vI x1), some (vI x2), some (vI x3), some (vI x4), some (vL u5), none], [], (I, S)) ((.inl (some (vL (if x4 = 0 then ((if x3 = 0 then ((if x2 = 0 then (p_lor (p_lshl (p_lsub (p_i2l x0) 96) 5) (p_i2l (x1 - 96)) : Int) else p_lor (p_lshl (p_lor (p_lshl (p_lsub (p_i2l x0) 96) 5) (p_i2l (x1 - 96))) 5) (p_i2l (x2 - 96))) : Int) else p_lor (p_lshl (if x2 = 0 then (p_lor (p_lshl (p_lsub (p_i2l x0) 96) 5) (p_i2l (x1 - 96)) : Int) else p_lor (p_lshl (p_lor (p_lshl (p_lsub (p_i2l x0) 96) 5) (p_i2l (x1 - 96))) 5) (p_i2l (x2 - 96))) 5) (p_i2l (x3 - 96))) : Int) else p_lor (p_lshl (if x3 = 0 then ((if x2 = 0 then (p_lor (p_lshl (p_lsub (p_i2l x0) 96) 5) (p_i2l (x1 - 96)) : Int) else p_lor (p_lshl (p_lor (p_lshl (p_lsub (p_i2l x0) 96) 5) (p_i2l (x1 - 96))) 5) (p_i2l (x2 - 96))) : Int) else p_lor (p_lshl (if x2 = 0 then (p_lor (p_lshl (p_lsub (p_i2l x0) 96) 5) (p_i2l (x1 - 96)) : Int) else p_lor (p_lshl (p_lor (p_lshl (p_lsub (p_i2l x0) 96) 5) (p_i2l (x1 - 96))) 5) (p_i2l (x2 - 96))) 5) (p_i2l (x3 - 96))) 5) (p_i2l (x4 - 96)))))), (I, S)) := fun u5 e_u5 => by subst e_u5; exact (
      have K8 : ∀ u5 : Int, u5 = (if x4 = 0 then ((if x3 = 0 then ((if x2 = 0 then (p_lor (p_lshl (p_lsub (p_i2l x0) 96) 5) (p_i2l (x1 - 96)) : Int) else p_lor (p_lshl (p_lor (p_lshl (p_lsub (p_i2l x0) 96) 5) (p_i2l (x1 - 96))) 5) (p_i2l (x2 - 96))) : Int) else p_lor (p_lshl (if x2 = 0 then (p_lor (p_lshl (p_lsub (p_i2l x0) 96) 5) (p_i2l (x1 - 96)) : Int) else p_lor (p_lshl (p_lor (p_lshl (p_lsub (p_i2l x0) 96) 5) (p_i2l (x1 - 96))) 5) (p_i2l (x2 - 96))) 5) (p_i2l (x3 - 96))) : Int) else p_lor (p_lshl (if x3 = 0 then ((if x2 = 0 then (p_lor (p_lshl (p_lsub (p_i2l x0) 96) 5) (p_i2l (x1 - 96)) : Int) else p_lor (p_lshl (p_lor (p_lshl (p_lsub (p_i2l x0) 96) 5) (p_i2l (x1 - 96))) 5) (p_i2l (x2 - 96))) : Int) else p_lor (p_lshl (if x2 = 0 then (p_lor (p_lshl (p_lsub (p_i2l x0) 96) 5) (p_i2l (x1 - 96)) : Int) else p_lor (p_lshl (p_lor (p_lshl (p_lsub (p_i2l x0) 96) 5) (p_i2l (x1 - 96))) 5) (p_i2l (x2 - 96))) 5) (p_i2l (x3 - 96))) 5) (p_i2l (x4 - 96))) → Ev d mX12_spelled (66, [some (vI x0), some (vI x1), some (vI x2), some (vI x3), some (vI x4), some (vL u5), none], [], (I, S)) ((.inl (some (vL (if x4 = 0 then ((if x3 = 0 then ((if x2 = 0 then (p_lor (p_lshl (p_lsub (p_i2l x0) 96) 5) (p_i2l (x1 - 96)) : Int) else p_lor (p_lshl (p_lor (p_lshl (p_lsub (p_i2l x0) 96) 5) (p_i2l (x1 - 96))) 5) (p_i2l (x2 - 96))) : Int) else p_lor (p_lshl (if x2 = 0 then (p_lor (p_lshl (p_lsub (p_i2l x0) 96) 5) (p_i2l (x1 - 96)) : Int) else p_lor (p_lshl (p_lor (p_lshl (p_lsub (p_i2l x0) 96) 5) (p_i2l (x1 - 96))) 5) (p_i2l (x2 - 96))) 5) (p_i2l (x3 - 96))) : Int) else p_lor (p_lshl (if x3 = 0 then ((if x2 = 0 then (p_lor (p_lshl (p_lsub (p_i2l x0) 96) 5) (p_i2l (x1 - 96)) : Int) else p_lor (p_lshl (p_lor (p_lshl (p_lsub (p_i2l x0) 96) 5) (p_i2l (x1 - 96))) 5) (p_i2l (x2 - 96))) : Int) else p_lor (p_lshl (if x2 = 0 then (p_lor (p_lshl (p_lsub (p_i2l x0) 96) 5) (p_i2l (x1 - 96)) : Int) else p_lor (p_lshl (p_lor (p_lshl (p_lsub (p_i2l x0) 96) 5) (p_i2l (x1 - 96))) 5) (p_i2l (x2 - 96))) 5) (p_i2l (x3 - 96))) 5) (p_i2l (x4 - 96)))))), (I, S)) := fun u5 e_u5 => by subst e_u5; exact (ev_retL rfl rfl (b_X12_spelled_66 ))
      
      b_X12_spelled_48  (fun (c7 : x4 = 0) => K8 (if x3 = 0 then ((if x2 = 0 then (p_lor (p_lshl (p_lsub (p_i2l x0) 96) 5) (p_i2l (x1 - 96)) : Int) else p_lor (p_lshl (p_lor (p_lshl (p_lsub (p_i2l x0) 96) 5) (p_i2l (x1 - 96))) 5) (p_i2l (x2 - 96))) : Int) else p_lor (p_lshl (if x2 = 0 then (p_lor (p_lshl (p_lsub (p_i2l x0) 96) 5) (p_i2l (x1 - 96)) : Int) else p_lor (p_lshl (p_lor (p_lshl (p_lsub (p_i2l x0) 96) 5) (p_i2l (x1 - 96))) 5) (p_i2l (x2 - 96))) 5) (p_i2l (x3 - 96))) ((if_pos c7).symm)) (fun (c8 : x4 ≠ 0) => 
        b_X12_spelled_53 (v4 c8) (K8 (p_lor (p_lshl (if x3 = 0 then ((if x2 = 0 then (p_lor (p_lshl (p_lsub (p_i2l x0) 96) 5) (p_i2l (x1 - 96)) : Int) else p_lor (p_lshl (p_lor (p_lshl (p_lsub (p_i2l x0) 96) 5) (p_i2l (x1 - 96))) 5) (p_i2l (x2 - 96))) : Int) else p_lor (p_lshl (if x2 = 0 then (p_lor (p_lshl (p_lsub (p_i2l x0) 96) 5) (p_i2l (x1 - 96)) : Int) else p_lor (p_lshl (p_lor (p_lshl (p_lsub (p_i2l x0) 96) 5) (p_i2l (x1 - 96))) 5) (p_i2l (x2 - 96))) 5) (p_i2l (x3 - 96))) 5) (p_i2l (x4 - 96))) ((if_neg c8).symm))))
    
    b_X12_spelled_32  (fun (c4 : x3 = 0) => K5 (if x2 = 0 then (p_lor (p_lshl (p_lsub (p_i2l x0) 96) 5) (p_i2l (x1 - 96)) : Int) else p_lor (p_lshl (p_lor (p_lshl (p_lsub (p_i2l x0) 96) 5) (p_i2l (x1 - 96))) 5) (p_i2l (x2 - 96))) ((if_pos c4).symm)) (fun (c5 : x3 ≠ 0) => 
      b_X12_spelled_36 (v3 c5) (K5 (p_lor (p_lshl (if x2 = 0 then (p_lor (p_lshl (p_lsub (p_i2l x0) 96) 5) (p_i2l (x1 - 96)) : Int) else p_lor (p_lshl (p_lor (p_lshl (p_lsub (p_i2l x0) 96) 5) (p_i2l (x1 - 96))) 5) (p_i2l (x2 - 96))) 5) (p_i2l (x3 - 96))) ((if_neg c5).symm))))
  
  b_X12_spelled_0 v1 (fun (c1 : x2 = 0) => K2 (p_lor (p_lshl (p_lsub (p_i2l x0) 96) 5) (p_i2l (x1 - 96))) ((if_pos c1).symm)) (fun (c2 : x2 ≠ 0) => 
    b_X12_spelled_20 (v2 c2) (K2 (p_lor (p_lshl (p_lor (p_lshl (p_lsub (p_i2l x0) 96) 5) (p_i2l (x1 - 96))) 5) (p_i2l (x2 - 96))) ((if_neg c2).symm))))
def f_X12_spelled (x0 : Int) (x1 : Int) (x2 : Int) (x3 : Int) (x4 : Int) : Int := (if x4 = 0 then ((if x3 = 0 then ((if x2 = 0 then (p_lor (p_lshl (p_lsub (p_i2l x0) 96) 5) (p_i2l (x1 - 96)) : Int) else p_lor (p_lshl (p_lor (p_lshl (p_lsub (p_i2l x0) 96) 5) (p_i2l (x1 - 96))) 5) (p_i2l (x2 - 96))) : Int) else p_lor (p_lshl (if x2 = 0 then (p_lor (p_lshl (p_lsub (p_i2l x0) 96) 5) (p_i2l (x1 - 96)) : Int) else p_lor (p_lshl (p_lor (p_lshl (p_lsub (p_i2l x0) 96) 5) (p_i2l (x1 - 96))) 5) (p_i2l (x2 - 96))) 5) (p_i2l (x3 - 96))) : Int) else p_lor (p_lshl (if x3 = 0 then ((if x2 = 0 then (p_lor (p_lshl (p_lsub (p_i2l x0) 96) 5) (p_i2l (x1 - 96)) : Int) else p_lor (p_lshl (p_lor (p_lshl (p_lsub (p_i2l x0) 96) 5) (p_i2l (x1 - 96))) 5) (p_i2l (x2 - 96))) : Int) else p_lor (p_lshl (if x2 = 0 then (p_lor (p_lshl (p_lsub (p_i2l x0) 96) 5) (p_i2l (x1 - 96)) : Int) else p_lor (p_lshl (p_lor (p_lshl (p_lsub (p_i2l x0) 96) 5) (p_i2l (x1 - 96))) 5) (p_i2l (x2 - 96))) 5) (p_i2l (x3 - 96))) 5) (p_i2l (x4 - 96)))
theorem c_X12_spelled {d : Nat} {I : Nat → Nat → Int} {S : PS} {x0 x1 x2 x3 x4 : Int}
    (v1 : -2147483648 ≤ x1 - 96 ∧ x1 - 96 ≤ 2147483647)
    (v2 : (x2 ≠ 0) → -2147483648 ≤ x2 - 96 ∧ x2 - 96 ≤ 2147483647)
    (v3 : (x3 ≠ 0) → -2147483648 ≤ x3 - 96 ∧ x3 - 96 ≤ 2147483647)
    (v4 : (x4 ≠ 0) → -2147483648 ≤ x4 - 96 ∧ x4 - 96 ≤ 2147483647) : Ca d mX12_spelled [vI x0, vI x1, vI x2, vI x3, vI x4] (I, S) (.inl (some (vL (f_X12_spelled x0 x1 x2 x3 x4)))) (I, S) := c0_X12_spelled v1 v2 v3 v4
theorem c0_X12_letters {d : Nat} {I : Nat → Nat → Int} {S : PS} {x0 : Int} : Ca (d + 1) mX12_letters [vI x0] (I, S) (.inl (some (vL (if x0 = 0 then ((f_X12_spelled 112 105 101 99 101) : Int) else (if x0 = 1 then ((f_X12_spelled 106 111 105 110 0) : Int) else (if x0 = 2 then ((f_X12_spelled 114 117 108 101 0) : Int) else (if x0 = 3 then ((f_X12_spelled 102 114 111 109 0) : Int) else (if x0 = 4 then ((f_X12_spelled 116 111 0 0 0) : Int) else (if x0 = 5 then ((f_X12_spelled 119 105 116 104 0) : Int) else (if x0 = 6 then ((f_X12_spelled 98 111 116 104 0) : Int) else (if x0 = 7 then ((f_X12_spelled 115 112 111 116 0) : Int) else (if x0 = 8 then ((f_X12_spelled 112 97 105 110 116) : Int) else (if x0 = 9 then ((f_X12_spelled 119 97 115 104 0) : Int) else (if x0 = 10 then ((f_X12_spelled 115 119 97 112 0) : Int) else (if x0 = 11 then ((f_X12_spelled 115 104 101 101 116) : Int) else (f_X12_spelled 111 102 102 0 0)))))))))))))))) (I, S) :=
  Ca.of rfl rfl (
  b_X12_letters_0  (fun (c1 : x0 = 0) => 
    b_X12_letters_64  (c_X12_spelled (by first | decide | exact (show -2147483648 ≤ (105 : Int) - 96 ∧ (105 : Int) - 96 ≤ 2147483647 from by decide)) (by first | decide | exact (show ((101 : Int) ≠ 0) → -2147483648 ≤ (101 : Int) - 96 ∧ (101 : Int) - 96 ≤ 2147483647 from by decide)) (by first | decide | exact (show ((99 : Int) ≠ 0) → -2147483648 ≤ (99 : Int) - 96 ∧ (99 : Int) - 96 ≤ 2147483647 from by decide)) (by first | decide | exact (show ((101 : Int) ≠ 0) → -2147483648 ≤ (101 : Int) - 96 ∧ (101 : Int) - 96 ≤ 2147483647 from by decide))) (ev_retL ((if_pos c1).symm) rfl (b_X12_letters_77 ))) (fun (c2 : x0 = 1) => 
    b_X12_letters_78  (c_X12_spelled (by first | decide | exact (show -2147483648 ≤ (111 : Int) - 96 ∧ (111 : Int) - 96 ≤ 2147483647 from by decide)) (by first | decide | exact (show ((105 : Int) ≠ 0) → -2147483648 ≤ (105 : Int) - 96 ∧ (105 : Int) - 96 ≤ 2147483647 from by decide)) (by first | decide | exact (show ((110 : Int) ≠ 0) → -2147483648 ≤ (110 : Int) - 96 ∧ (110 : Int) - 96 ≤ 2147483647 from by decide)) (by first | decide | exact (show ((0 : Int) ≠ 0) → -2147483648 ≤ (0 : Int) - 96 ∧ (0 : Int) - 96 ≤ 2147483647 from by decide))) (ev_retL ((if_pos c2).symm.trans (if_neg (show x0 ≠ 0 from by omega)).symm) rfl (b_X12_letters_90 ))) (fun (c3 : x0 = 2) => 
    b_X12_letters_91  (c_X12_spelled (by first | decide | exact (show -2147483648 ≤ (117 : Int) - 96 ∧ (117 : Int) - 96 ≤ 2147483647 from by decide)) (by first | decide | exact (show ((108 : Int) ≠ 0) → -2147483648 ≤ (108 : Int) - 96 ∧ (108 : Int) - 96 ≤ 2147483647 from by decide)) (by first | decide | exact (show ((101 : Int) ≠ 0) → -2147483648 ≤ (101 : Int) - 96 ∧ (101 : Int) - 96 ≤ 2147483647 from by decide)) (by first | decide | exact (show ((0 : Int) ≠ 0) → -2147483648 ≤ (0 : Int) - 96 ∧ (0 : Int) - 96 ≤ 2147483647 from by decide))) (ev_retL (((if_pos c3).symm.trans (if_neg (show x0 ≠ 1 from by omega)).symm).trans (if_neg (show x0 ≠ 0 from by omega)).symm) rfl (b_X12_letters_103 ))) (fun (c4 : x0 = 3) => 
    b_X12_letters_104  (c_X12_spelled (by first | decide | exact (show -2147483648 ≤ (114 : Int) - 96 ∧ (114 : Int) - 96 ≤ 2147483647 from by decide)) (by first | decide | exact (show ((111 : Int) ≠ 0) → -2147483648 ≤ (111 : Int) - 96 ∧ (111 : Int) - 96 ≤ 2147483647 from by decide)) (by first | decide | exact (show ((109 : Int) ≠ 0) → -2147483648 ≤ (109 : Int) - 96 ∧ (109 : Int) - 96 ≤ 2147483647 from by decide)) (by first | decide | exact (show ((0 : Int) ≠ 0) → -2147483648 ≤ (0 : Int) - 96 ∧ (0 : Int) - 96 ≤ 2147483647 from by decide))) (ev_retL ((((if_pos c4).symm.trans (if_neg (show x0 ≠ 2 from by omega)).symm).trans (if_neg (show x0 ≠ 1 from by omega)).symm).trans (if_neg (show x0 ≠ 0 from by omega)).symm) rfl (b_X12_letters_116 ))) (fun (c5 : x0 = 4) => 
    b_X12_letters_117  (c_X12_spelled (by first | decide | exact (show -2147483648 ≤ (111 : Int) - 96 ∧ (111 : Int) - 96 ≤ 2147483647 from by decide)) (by first | decide | exact (show ((0 : Int) ≠ 0) → -2147483648 ≤ (0 : Int) - 96 ∧ (0 : Int) - 96 ≤ 2147483647 from by decide)) (by first | decide | exact (show ((0 : Int) ≠ 0) → -2147483648 ≤ (0 : Int) - 96 ∧ (0 : Int) - 96 ≤ 2147483647 from by decide)) (by first | decide | exact (show ((0 : Int) ≠ 0) → -2147483648 ≤ (0 : Int) - 96 ∧ (0 : Int) - 96 ≤ 2147483647 from by decide))) (ev_retL (((((if_pos c5).symm.trans (if_neg (show x0 ≠ 3 from by omega)).symm).trans (if_neg (show x0 ≠ 2 from by omega)).symm).trans (if_neg (show x0 ≠ 1 from by omega)).symm).trans (if_neg (show x0 ≠ 0 from by omega)).symm) rfl (b_X12_letters_127 ))) (fun (c6 : x0 = 5) => 
    b_X12_letters_128  (c_X12_spelled (by first | decide | exact (show -2147483648 ≤ (105 : Int) - 96 ∧ (105 : Int) - 96 ≤ 2147483647 from by decide)) (by first | decide | exact (show ((116 : Int) ≠ 0) → -2147483648 ≤ (116 : Int) - 96 ∧ (116 : Int) - 96 ≤ 2147483647 from by decide)) (by first | decide | exact (show ((104 : Int) ≠ 0) → -2147483648 ≤ (104 : Int) - 96 ∧ (104 : Int) - 96 ≤ 2147483647 from by decide)) (by first | decide | exact (show ((0 : Int) ≠ 0) → -2147483648 ≤ (0 : Int) - 96 ∧ (0 : Int) - 96 ≤ 2147483647 from by decide))) (ev_retL ((((((if_pos c6).symm.trans (if_neg (show x0 ≠ 4 from by omega)).symm).trans (if_neg (show x0 ≠ 3 from by omega)).symm).trans (if_neg (show x0 ≠ 2 from by omega)).symm).trans (if_neg (show x0 ≠ 1 from by omega)).symm).trans (if_neg (show x0 ≠ 0 from by omega)).symm) rfl (b_X12_letters_140 ))) (fun (c7 : x0 = 6) => 
    b_X12_letters_141  (c_X12_spelled (by first | decide | exact (show -2147483648 ≤ (111 : Int) - 96 ∧ (111 : Int) - 96 ≤ 2147483647 from by decide)) (by first | decide | exact (show ((116 : Int) ≠ 0) → -2147483648 ≤ (116 : Int) - 96 ∧ (116 : Int) - 96 ≤ 2147483647 from by decide)) (by first | decide | exact (show ((104 : Int) ≠ 0) → -2147483648 ≤ (104 : Int) - 96 ∧ (104 : Int) - 96 ≤ 2147483647 from by decide)) (by first | decide | exact (show ((0 : Int) ≠ 0) → -2147483648 ≤ (0 : Int) - 96 ∧ (0 : Int) - 96 ≤ 2147483647 from by decide))) (ev_retL (((((((if_pos c7).symm.trans (if_neg (show x0 ≠ 5 from by omega)).symm).trans (if_neg (show x0 ≠ 4 from by omega)).symm).trans (if_neg (show x0 ≠ 3 from by omega)).symm).trans (if_neg (show x0 ≠ 2 from by omega)).symm).trans (if_neg (show x0 ≠ 1 from by omega)).symm).trans (if_neg (show x0 ≠ 0 from by omega)).symm) rfl (b_X12_letters_153 ))) (fun (c8 : x0 = 7) => 
    b_X12_letters_154  (c_X12_spelled (by first | decide | exact (show -2147483648 ≤ (112 : Int) - 96 ∧ (112 : Int) - 96 ≤ 2147483647 from by decide)) (by first | decide | exact (show ((111 : Int) ≠ 0) → -2147483648 ≤ (111 : Int) - 96 ∧ (111 : Int) - 96 ≤ 2147483647 from by decide)) (by first | decide | exact (show ((116 : Int) ≠ 0) → -2147483648 ≤ (116 : Int) - 96 ∧ (116 : Int) - 96 ≤ 2147483647 from by decide)) (by first | decide | exact (show ((0 : Int) ≠ 0) → -2147483648 ≤ (0 : Int) - 96 ∧ (0 : Int) - 96 ≤ 2147483647 from by decide))) (ev_retL ((((((((if_pos c8).symm.trans (if_neg (show x0 ≠ 6 from by omega)).symm).trans (if_neg (show x0 ≠ 5 from by omega)).symm).trans (if_neg (show x0 ≠ 4 from by omega)).symm).trans (if_neg (show x0 ≠ 3 from by omega)).symm).trans (if_neg (show x0 ≠ 2 from by omega)).symm).trans (if_neg (show x0 ≠ 1 from by omega)).symm).trans (if_neg (show x0 ≠ 0 from by omega)).symm) rfl (b_X12_letters_166 ))) (fun (c9 : x0 = 8) => 
    b_X12_letters_167  (c_X12_spelled (by first | decide | exact (show -2147483648 ≤ (97 : Int) - 96 ∧ (97 : Int) - 96 ≤ 2147483647 from by decide)) (by first | decide | exact (show ((105 : Int) ≠ 0) → -2147483648 ≤ (105 : Int) - 96 ∧ (105 : Int) - 96 ≤ 2147483647 from by decide)) (by first | decide | exact (show ((110 : Int) ≠ 0) → -2147483648 ≤ (110 : Int) - 96 ∧ (110 : Int) - 96 ≤ 2147483647 from by decide)) (by first | decide | exact (show ((116 : Int) ≠ 0) → -2147483648 ≤ (116 : Int) - 96 ∧ (116 : Int) - 96 ≤ 2147483647 from by decide))) (ev_retL (((((((((if_pos c9).symm.trans (if_neg (show x0 ≠ 7 from by omega)).symm).trans (if_neg (show x0 ≠ 6 from by omega)).symm).trans (if_neg (show x0 ≠ 5 from by omega)).symm).trans (if_neg (show x0 ≠ 4 from by omega)).symm).trans (if_neg (show x0 ≠ 3 from by omega)).symm).trans (if_neg (show x0 ≠ 2 from by omega)).symm).trans (if_neg (show x0 ≠ 1 from by omega)).symm).trans (if_neg (show x0 ≠ 0 from by omega)).symm) rfl (b_X12_letters_180 ))) (fun (c10 : x0 = 9) => 
    b_X12_letters_181  (c_X12_spelled (by first | decide | exact (show -2147483648 ≤ (97 : Int) - 96 ∧ (97 : Int) - 96 ≤ 2147483647 from by decide)) (by first | decide | exact (show ((115 : Int) ≠ 0) → -2147483648 ≤ (115 : Int) - 96 ∧ (115 : Int) - 96 ≤ 2147483647 from by decide)) (by first | decide | exact (show ((104 : Int) ≠ 0) → -2147483648 ≤ (104 : Int) - 96 ∧ (104 : Int) - 96 ≤ 2147483647 from by decide)) (by first | decide | exact (show ((0 : Int) ≠ 0) → -2147483648 ≤ (0 : Int) - 96 ∧ (0 : Int) - 96 ≤ 2147483647 from by decide))) (ev_retL ((((((((((if_pos c10).symm.trans (if_neg (show x0 ≠ 8 from by omega)).symm).trans (if_neg (show x0 ≠ 7 from by omega)).symm).trans (if_neg (show x0 ≠ 6 from by omega)).symm).trans (if_neg (show x0 ≠ 5 from by omega)).symm).trans (if_neg (show x0 ≠ 4 from by omega)).symm).trans (if_neg (show x0 ≠ 3 from by omega)).symm).trans (if_neg (show x0 ≠ 2 from by omega)).symm).trans (if_neg (show x0 ≠ 1 from by omega)).symm).trans (if_neg (show x0 ≠ 0 from by omega)).symm) rfl (b_X12_letters_193 ))) (fun (c11 : x0 = 10) => 
    b_X12_letters_194  (c_X12_spelled (by first | decide | exact (show -2147483648 ≤ (119 : Int) - 96 ∧ (119 : Int) - 96 ≤ 2147483647 from by decide)) (by first | decide | exact (show ((97 : Int) ≠ 0) → -2147483648 ≤ (97 : Int) - 96 ∧ (97 : Int) - 96 ≤ 2147483647 from by decide)) (by first | decide | exact (show ((112 : Int) ≠ 0) → -2147483648 ≤ (112 : Int) - 96 ∧ (112 : Int) - 96 ≤ 2147483647 from by decide)) (by first | decide | exact (show ((0 : Int) ≠ 0) → -2147483648 ≤ (0 : Int) - 96 ∧ (0 : Int) - 96 ≤ 2147483647 from by decide))) (ev_retL (((((((((((if_pos c11).symm.trans (if_neg (show x0 ≠ 9 from by omega)).symm).trans (if_neg (show x0 ≠ 8 from by omega)).symm).trans (if_neg (show x0 ≠ 7 from by omega)).symm).trans (if_neg (show x0 ≠ 6 from by omega)).symm).trans (if_neg (show x0 ≠ 5 from by omega)).symm).trans (if_neg (show x0 ≠ 4 from by omega)).symm).trans (if_neg (show x0 ≠ 3 from by omega)).symm).trans (if_neg (show x0 ≠ 2 from by omega)).symm).trans (if_neg (show x0 ≠ 1 from by omega)).symm).trans (if_neg (show x0 ≠ 0 from by omega)).symm) rfl (b_X12_letters_206 ))) (fun (c12 : x0 = 11) => 
    b_X12_letters_207  (c_X12_spelled (by first | decide | exact (show -2147483648 ≤ (104 : Int) - 96 ∧ (104 : Int) - 96 ≤ 2147483647 from by decide)) (by first | decide | exact (show ((101 : Int) ≠ 0) → -2147483648 ≤ (101 : Int) - 96 ∧ (101 : Int) - 96 ≤ 2147483647 from by decide)) (by first | decide | exact (show ((101 : Int) ≠ 0) → -2147483648 ≤ (101 : Int) - 96 ∧ (101 : Int) - 96 ≤ 2147483647 from by decide)) (by first | decide | exact (show ((116 : Int) ≠ 0) → -2147483648 ≤ (116 : Int) - 96 ∧ (116 : Int) - 96 ≤ 2147483647 from by decide))) (ev_retL ((((((((((((if_pos c12).symm.trans (if_neg (show x0 ≠ 10 from by omega)).symm).trans (if_neg (show x0 ≠ 9 from by omega)).symm).trans (if_neg (show x0 ≠ 8 from by omega)).symm).trans (if_neg (show x0 ≠ 7 from by omega)).symm).trans (if_neg (show x0 ≠ 6 from by omega)).symm).trans (if_neg (show x0 ≠ 5 from by omega)).symm).trans (if_neg (show x0 ≠ 4 from by omega)).symm).trans (if_neg (show x0 ≠ 3 from by omega)).symm).trans (if_neg (show x0 ≠ 2 from by omega)).symm).trans (if_neg (show x0 ≠ 1 from by omega)).symm).trans (if_neg (show x0 ≠ 0 from by omega)).symm) rfl (b_X12_letters_220 ))) (fun (c13 : ¬(0 ≤ x0 ∧ x0 ≤ 11)) => 
    b_X12_letters_221  (c_X12_spelled (by first | decide | exact (show -2147483648 ≤ (102 : Int) - 96 ∧ (102 : Int) - 96 ≤ 2147483647 from by decide)) (by first | decide | exact (show ((102 : Int) ≠ 0) → -2147483648 ≤ (102 : Int) - 96 ∧ (102 : Int) - 96 ≤ 2147483647 from by decide)) (by first | decide | exact (show ((0 : Int) ≠ 0) → -2147483648 ≤ (0 : Int) - 96 ∧ (0 : Int) - 96 ≤ 2147483647 from by decide)) (by first | decide | exact (show ((0 : Int) ≠ 0) → -2147483648 ≤ (0 : Int) - 96 ∧ (0 : Int) - 96 ≤ 2147483647 from by decide))) (ev_retL ((((((((((((if_neg (show x0 ≠ 11 from by omega)).symm.trans (if_neg (show x0 ≠ 10 from by omega)).symm).trans (if_neg (show x0 ≠ 9 from by omega)).symm).trans (if_neg (show x0 ≠ 8 from by omega)).symm).trans (if_neg (show x0 ≠ 7 from by omega)).symm).trans (if_neg (show x0 ≠ 6 from by omega)).symm).trans (if_neg (show x0 ≠ 5 from by omega)).symm).trans (if_neg (show x0 ≠ 4 from by omega)).symm).trans (if_neg (show x0 ≠ 3 from by omega)).symm).trans (if_neg (show x0 ≠ 2 from by omega)).symm).trans (if_neg (show x0 ≠ 1 from by omega)).symm).trans (if_neg (show x0 ≠ 0 from by omega)).symm) rfl (b_X12_letters_232 ))))
def f_X12_letters (x0 : Int) : Int := (if x0 = 0 then ((f_X12_spelled 112 105 101 99 101) : Int) else (if x0 = 1 then ((f_X12_spelled 106 111 105 110 0) : Int) else (if x0 = 2 then ((f_X12_spelled 114 117 108 101 0) : Int) else (if x0 = 3 then ((f_X12_spelled 102 114 111 109 0) : Int) else (if x0 = 4 then ((f_X12_spelled 116 111 0 0 0) : Int) else (if x0 = 5 then ((f_X12_spelled 119 105 116 104 0) : Int) else (if x0 = 6 then ((f_X12_spelled 98 111 116 104 0) : Int) else (if x0 = 7 then ((f_X12_spelled 115 112 111 116 0) : Int) else (if x0 = 8 then ((f_X12_spelled 112 97 105 110 116) : Int) else (if x0 = 9 then ((f_X12_spelled 119 97 115 104 0) : Int) else (if x0 = 10 then ((f_X12_spelled 115 119 97 112 0) : Int) else (if x0 = 11 then ((f_X12_spelled 115 104 101 101 116) : Int) else (f_X12_spelled 111 102 102 0 0)))))))))))))
theorem c_X12_letters {d : Nat} {I : Nat → Nat → Int} {S : PS} {x0 : Int} : Ca (d + 1) mX12_letters [vI x0] (I, S) (.inl (some (vL (f_X12_letters x0)))) (I, S) := c0_X12_letters 
theorem c_X12_wrong {d : Nat} {I : Nat → Nat → Int} {S : PS} {x1 : Int} (hl0 : LyX12 S) : Ca d mX12_wrong [vR (some (22, 0, 156)), vI x1] (I, S) (.inl none) ((if I 156 3 = 0 then (up2 (up2 I 156 3 x1) 156 4 (I 156 9)) else I), S) :=
  Ca.of rfl rfl (
  b_X12_wrong_0  (fun (c1 : I 156 3 = 0) => ev_retV (prEq ((if_pos c1).symm) rfl) (b_X12_wrong_8 )) (fun (c2 : I 156 3 ≠ 0) => ev_retV (prEq ((if_neg c2).symm) rfl) (b_X12_wrong_7 )))
theorem c_X12_isGood {d : Nat} {I : Nat → Nat → Int} {S : PS} (hl0 : LyX12 S) : Ca d mX12_isGood [vR (some (22, 0, 156))] (I, S) (.inl (some (vI (if I 156 3 = 0 then (1 : Int) else 0)))) (I, S) :=
  Ca.of rfl rfl (
  have K2 : ∀ us0 : Int, us0 = (if I 156 3 = 0 then (1 : Int) else 0) → Ev d mX12_isGood (12, [some (vR (some (22, 0, 156)))], [vI us0], (I, S)) ((.inl (some (vI (if I 156 3 = 0 then (1 : Int) else 0)))), (I, S)) := fun us0 e_us0 => by subst e_us0; exact (ev_ret2 rfl rfl (b_X12_isGood_12 (ite01 _)))
  
  b_X12_isGood_0  (fun (c1 : I 156 3 ≠ 0) => 
    b_X12_isGood_11  (K2 0 (if_neg c1).symm)) (fun (c2 : I 156 3 = 0) => 
    b_X12_isGood_7  (K2 1 (if_pos c2).symm)))
theorem c_X12_numberHere {d : Nat} {I : Nat → Nat → Int} {S : PS} {x1 x2 : Int} (hl0 : LyX12 S) : Ca (d + 1) mX12_numberHere [vR (some (22, 0, 156)), vI x1, vI x2] (I, S) (.inl (some (vI (if I 156 3 = 0 then ((if I 156 8 = 2 then ((if 4 < I 156 10 then ((if I 156 3 = 0 then (up2 (up2 I 156 3 2) 156 4 (I 156 9)) else I) 156 11 : Int) else (if I 156 11 < x1 then ((if I 156 3 = 0 then (up2 (up2 I 156 3 2) 156 4 (I 156 9)) else I) 156 11 : Int) else (if I 156 11 ≤ x2 then (I 156 11 : Int) else (if I 156 3 = 0 then (up2 (up2 I 156 3 2) 156 4 (I 156 9)) else I) 156 11))) : Int) else (if I 156 3 = 0 then (up2 (up2 I 156 3 1) 156 4 (I 156 9)) else I) 156 11) : Int) else 0)))) ((if I 156 3 = 0 then (if I 156 8 = 2 then (if 4 < I 156 10 then (if I 156 3 = 0 then (up2 (up2 I 156 3 2) 156 4 (I 156 9)) else I) else (if I 156 11 < x1 then (if I 156 3 = 0 then (up2 (up2 I 156 3 2) 156 4 (I 156 9)) else I) else (if I 156 11 ≤ x2 then I else (if I 156 3 = 0 then (up2 (up2 I 156 3 2) 156 4 (I 156 9)) else I)))) else (if I 156 3 = 0 then (up2 (up2 I 156 3 1) 156 4 (I 156 9)) else I)) else I), S) :=
  Ca.of rfl rfl (
  b_X12_numberHere_0  (c_X12_isGood hl0) (
  b_X12_numberHere_4  (fun c1' => have c1 : I 156 3 = 0 := b2t c1'; 
    b_X12_numberHere_9  (fun (c3 : I 156 8 = 2) => 
      b_X12_numberHere_25  (fun (c5 : 4 < I 156 10) => 
        b_X12_numberHere_49  (c_X12_wrong hl0) (ev_ret2 (((if_pos c5).symm.trans (if_pos c3).symm).trans (if_pos c1).symm) (prEq (((if_pos c5).symm.trans (if_pos c3).symm).trans (if_pos c1).symm) rfl) (b_X12_numberHere_54 ))) (fun (c6 : I 156 10 ≤ 4) => 
        b_X12_numberHere_33  (fun (c7 : I 156 11 < x1) => 
          b_X12_numberHere_49  (c_X12_wrong hl0) (ev_ret2 ((((if_pos c7).symm.trans (if_neg (Int.not_lt.mpr c6)).symm).trans (if_pos c3).symm).trans (if_pos c1).symm) (prEq ((((if_pos c7).symm.trans (if_neg (Int.not_lt.mpr c6)).symm).trans (if_pos c3).symm).trans (if_pos c1).symm) rfl) (b_X12_numberHere_54 ))) (fun (c8 : x1 ≤ I 156 11) => 
          b_X12_numberHere_41  (fun (c9 : I 156 11 ≤ x2) => ev_ret2 (((((if_pos c9).symm.trans (if_neg (Int.not_lt.mpr c8)).symm).trans (if_neg (Int.not_lt.mpr c6)).symm).trans (if_pos c3).symm).trans (if_pos c1).symm) (prEq (((((if_pos c9).symm.trans (if_neg (Int.not_lt.mpr c8)).symm).trans (if_neg (Int.not_lt.mpr c6)).symm).trans (if_pos c3).symm).trans (if_pos c1).symm) rfl) (b_X12_numberHere_54 )) (fun (c10 : x2 < I 156 11) => 
            b_X12_numberHere_49  (c_X12_wrong hl0) (ev_ret2 (((((if_neg (Int.not_le.mpr c10)).symm.trans (if_neg (Int.not_lt.mpr c8)).symm).trans (if_neg (Int.not_lt.mpr c6)).symm).trans (if_pos c3).symm).trans (if_pos c1).symm) (prEq (((((if_neg (Int.not_le.mpr c10)).symm.trans (if_neg (Int.not_lt.mpr c8)).symm).trans (if_neg (Int.not_lt.mpr c6)).symm).trans (if_pos c3).symm).trans (if_pos c1).symm) rfl) (b_X12_numberHere_54 )))))) (fun (c4 : I 156 8 ≠ 2) => 
      b_X12_numberHere_17  (c_X12_wrong hl0) (
      b_X12_numberHere_22  (ev_ret2 ((if_neg c4).symm.trans (if_pos c1).symm) (prEq ((if_neg c4).symm.trans (if_pos c1).symm) rfl) (b_X12_numberHere_54 ))))) (fun c2' => have c2 : ¬(I 156 3 = 0) := b2f c2'; ev_ret2 ((if_neg c2).symm) (prEq ((if_neg c2).symm) rfl) (b_X12_numberHere_7 ))))
theorem c0_X12_outer {d : Nat} {I : Nat → Nat → Int} {S : PS} {n0 a0 : Nat} {x1 x2 : Int}
    (v1 : -2147483648 ≤ 20 * x1 ∧ 20 * x1 ≤ 2147483647)
    (v2 : -2147483648 ≤ (20 * x1) + 1 ∧ (20 * x1) + 1 ≤ 2147483647)
    (v3 : 0 ≤ (20 * x1) + 1 ∧ (20 * x1) + 1 < (n0 : Nat))
    (v4 : (x2 ≠ I a0 ((20 * x1) + 1).toNat) → 0 ≤ 20 * x1 ∧ 20 * x1 < (n0 : Nat))
    (v5 : (x2 ≠ I a0 ((20 * x1) + 1).toNat) → -2147483648 ≤ (20 * x1) + 2 ∧ (20 * x1) + 2 ≤ 2147483647)
    (v6 : (x2 ≠ I a0 ((20 * x1) + 1).toNat) → -2147483648 ≤ ((20 * x1) + 2) + x2 ∧ ((20 * x1) + 2) + x2 ≤ 2147483647)
    (v7 : (x2 ≠ I a0 ((20 * x1) + 1).toNat) → 0 ≤ ((20 * x1) + 2) + x2 ∧ ((20 * x1) + 2) + x2 < (n0 : Nat))
    (v8 : (x2 ≠ I a0 ((20 * x1) + 1).toNat) → -2147483648 ≤ (I a0 (((20 * x1) + 2) + x2).toNat) - 1 ∧ (I a0 (((20 * x1) + 2) + x2).toNat) - 1 ≤ 2147483647)
    (v9 : (x2 ≠ I a0 ((20 * x1) + 1).toNat) → -2147483648 ≤ ((I a0 (((20 * x1) + 2) + x2).toNat) - 1) - (if (0 < x2) ∨ (I a0 ((20 * x1) + 1).toNat = I a0 (20 * x1).toNat) then (1 : Int) else 0) ∧ ((I a0 (((20 * x1) + 2) + x2).toNat) - 1) - (if (0 < x2) ∨ (I a0 ((20 * x1) + 1).toNat = I a0 (20 * x1).toNat) then (1 : Int) else 0) ≤ 2147483647)
    (v10 : (x2 ≠ I a0 ((20 * x1) + 1).toNat) → -2147483648 ≤ x2 + 1 ∧ x2 + 1 ≤ 2147483647)
    (v11 : (x2 ≠ I a0 ((20 * x1) + 1).toNat) → -2147483648 ≤ (((I a0 (((20 * x1) + 2) + x2).toNat) - 1) - (if (0 < x2) ∨ (I a0 ((20 * x1) + 1).toNat = I a0 (20 * x1).toNat) then (1 : Int) else 0)) - (if (x2 + 1 < I a0 ((20 * x1) + 1).toNat) ∨ (I a0 ((20 * x1) + 1).toNat = I a0 (20 * x1).toNat) then (1 : Int) else 0) ∧ (((I a0 (((20 * x1) + 2) + x2).toNat) - 1) - (if (0 < x2) ∨ (I a0 ((20 * x1) + 1).toNat = I a0 (20 * x1).toNat) then (1 : Int) else 0)) - (if (x2 + 1 < I a0 ((20 * x1) + 1).toNat) ∨ (I a0 ((20 * x1) + 1).toNat = I a0 (20 * x1).toNat) then (1 : Int) else 0) ≤ 2147483647)
    (v12 : (x2 = I a0 ((20 * x1) + 1).toNat) → 0 ≤ 20 * x1 ∧ 20 * x1 < (n0 : Nat))
    (v13 : (x2 = I a0 ((20 * x1) + 1).toNat) → -2147483648 ≤ (I a0 (20 * x1).toNat) - (I a0 ((20 * x1) + 1).toNat) ∧ (I a0 (20 * x1).toNat) - (I a0 ((20 * x1) + 1).toNat) ≤ 2147483647) : Ca d mX12_outer [vR (some (0, n0, a0)), vI x1, vI x2] (I, S) (.inl (some (vI (if x2 ≠ I a0 ((20 * x1) + 1).toNat then ((((I a0 (((20 * x1) + 2) + x2).toNat) - 1) - (if (0 < x2) ∨ (I a0 ((20 * x1) + 1).toNat = I a0 (20 * x1).toNat) then (1 : Int) else 0)) - (if (x2 + 1 < I a0 ((20 * x1) + 1).toNat) ∨ (I a0 ((20 * x1) + 1).toNat = I a0 (20 * x1).toNat) then (1 : Int) else 0) : Int) else (I a0 (20 * x1).toNat) - (I a0 ((20 * x1) + 1).toNat))))) (I, S) :=
  Ca.of rfl rfl (
  b_X12_outer_0 v1 v2 v3 (fun (c1 : x2 ≠ I a0 ((20 * x1) + 1).toNat) => 
    have K4 : ∀ us0 : Int, us0 = (if I a0 ((20 * x1) + 1).toNat = I a0 (20 * x1).toNat then (1 : Int) else 0) → Ev d mX12_outer (38, [some (vR (some (0, n0, a0))), some (vI x1), some (vI x2), some (vI (I a0 ((20 * x1) + 1).toNat)), none, none], [vI us0], (I, S)) ((.inl (some (vI (if x2 ≠ I a0 ((20 * x1) + 1).toNat then ((((I a0 (((20 * x1) + 2) + x2).toNat) - 1) - (if (0 < x2) ∨ (I a0 ((20 * x1) + 1).toNat = I a0 (20 * x1).toNat) then (1 : Int) else 0)) - (if (x2 + 1 < I a0 ((20 * x1) + 1).toNat) ∨ (I a0 ((20 * x1) + 1).toNat = I a0 (20 * x1).toNat) then (1 : Int) else 0) : Int) else (I a0 (20 * x1).toNat) - (I a0 ((20 * x1) + 1).toNat))))), (I, S)) := fun us0 e_us0 => by subst e_us0; exact (
      have K9 : ∀ us1 : Int, us1 = (if (0 < x2) ∨ (I a0 ((20 * x1) + 1).toNat = I a0 (20 * x1).toNat) then (1 : Int) else 0) → Ev d mX12_outer (70, [some (vR (some (0, n0, a0))), some (vI x1), some (vI x2), some (vI (I a0 ((20 * x1) + 1).toNat)), some (vI (if I a0 ((20 * x1) + 1).toNat = I a0 (20 * x1).toNat then (1 : Int) else 0)), some (vI ((I a0 (((20 * x1) + 2) + x2).toNat) - 1))], [vI us1, vI ((I a0 (((20 * x1) + 2) + x2).toNat) - 1)], (I, S)) ((.inl (some (vI (if x2 ≠ I a0 ((20 * x1) + 1).toNat then ((((I a0 (((20 * x1) + 2) + x2).toNat) - 1) - (if (0 < x2) ∨ (I a0 ((20 * x1) + 1).toNat = I a0 (20 * x1).toNat) then (1 : Int) else 0)) - (if (x2 + 1 < I a0 ((20 * x1) + 1).toNat) ∨ (I a0 ((20 * x1) + 1).toNat = I a0 (20 * x1).toNat) then (1 : Int) else 0) : Int) else (I a0 (20 * x1).toNat) - (I a0 ((20 * x1) + 1).toNat))))), (I, S)) := fun us1 e_us1 => by subst e_us1; exact (
        have K14 : ∀ us1 : Int, us1 = (if (x2 + 1 < I a0 ((20 * x1) + 1).toNat) ∨ (I a0 ((20 * x1) + 1).toNat = I a0 (20 * x1).toNat) then (1 : Int) else 0) → Ev d mX12_outer (92, [some (vR (some (0, n0, a0))), some (vI x1), some (vI x2), some (vI (I a0 ((20 * x1) + 1).toNat)), some (vI (if I a0 ((20 * x1) + 1).toNat = I a0 (20 * x1).toNat then (1 : Int) else 0)), some (vI (((I a0 (((20 * x1) + 2) + x2).toNat) - 1) - (if (0 < x2) ∨ (I a0 ((20 * x1) + 1).toNat = I a0 (20 * x1).toNat) then (1 : Int) else 0)))], [vI us1, vI (((I a0 (((20 * x1) + 2) + x2).toNat) - 1) - (if (0 < x2) ∨ (I a0 ((20 * x1) + 1).toNat = I a0 (20 * x1).toNat) then (1 : Int) else 0))], (I, S)) ((.inl (some (vI (if x2 ≠ I a0 ((20 * x1) + 1).toNat then ((((I a0 (((20 * x1) + 2) + x2).toNat) - 1) - (if (0 < x2) ∨ (I a0 ((20 * x1) + 1).toNat = I a0 (20 * x1).toNat) then (1 : Int) else 0)) - (if (x2 + 1 < I a0 ((20 * x1) + 1).toNat) ∨ (I a0 ((20 * x1) + 1).toNat = I a0 (20 * x1).toNat) then (1 : Int) else 0) : Int) else (I a0 (20 * x1).toNat) - (I a0 ((20 * x1) + 1).toNat))))), (I, S)) := fun us1 e_us1 => by subst e_us1; exact (ev_ret2 ((if_pos c1).symm) rfl (b_X12_outer_92 (v11 c1)))
        
        b_X12_outer_70 (v9 c1) (v10 c1) (fun (c11 : x2 + 1 < I a0 ((20 * x1) + 1).toNat) => 
          b_X12_outer_87  (K14 1 (if_pos (Or.inl c11)).symm)) (fun (c12 : I a0 ((20 * x1) + 1).toNat ≤ x2 + 1) => 
          b_X12_outer_82  (fun c13' => have c13 : ¬(I a0 ((20 * x1) + 1).toNat = I a0 (20 * x1).toNat) := b2f c13'; 
            b_X12_outer_91  (K14 0 (if_neg (fun q => q.elim (Int.not_lt.mpr c12) c13)).symm)) (fun c14' => have c14 : I a0 ((20 * x1) + 1).toNat = I a0 (20 * x1).toNat := b2t c14'; 
            b_X12_outer_87  (K14 1 (if_pos (Or.inr c14)).symm))))
      
      b_X12_outer_38 v1 (v5 c1) (v6 c1) (v7 c1) (v8 c1) (fun (c6 : 0 < x2) => 
        b_X12_outer_65  (K9 1 (if_pos (Or.inl c6)).symm)) (fun (c7 : x2 ≤ 0) => 
        b_X12_outer_60  (fun c8' => have c8 : ¬(I a0 ((20 * x1) + 1).toNat = I a0 (20 * x1).toNat) := b2f c8'; 
          b_X12_outer_69  (K9 0 (if_neg (fun q => q.elim (Int.not_lt.mpr c7) c8)).symm)) (fun c9' => have c9 : I a0 ((20 * x1) + 1).toNat = I a0 (20 * x1).toNat := b2t c9'; 
          b_X12_outer_65  (K9 1 (if_pos (Or.inr c9)).symm))))
    
    b_X12_outer_23 v1 (v4 c1) (fun (c3 : I a0 ((20 * x1) + 1).toNat ≠ I a0 (20 * x1).toNat) => 
      b_X12_outer_37  (K4 0 (if_neg c3).symm)) (fun (c4 : I a0 ((20 * x1) + 1).toNat = I a0 (20 * x1).toNat) => 
      b_X12_outer_33  (K4 1 (if_pos c4).symm))) (fun (c2 : x2 = I a0 ((20 * x1) + 1).toNat) => ev_ret2 ((if_neg (fun q => q c2)).symm) rfl (b_X12_outer_14 v1 (v12 c2) (v13 c2))))
def f_X12_outer (I : Nat → Nat → Int) (a0 : Nat) (x1 : Int) (x2 : Int) : Int := (if x2 ≠ I a0 ((20 * x1) + 1).toNat then ((((I a0 (((20 * x1) + 2) + x2).toNat) - 1) - (if (0 < x2) ∨ (I a0 ((20 * x1) + 1).toNat = I a0 (20 * x1).toNat) then (1 : Int) else 0)) - (if (x2 + 1 < I a0 ((20 * x1) + 1).toNat) ∨ (I a0 ((20 * x1) + 1).toNat = I a0 (20 * x1).toNat) then (1 : Int) else 0) : Int) else (I a0 (20 * x1).toNat) - (I a0 ((20 * x1) + 1).toNat))
theorem c_X12_outer {d : Nat} {I : Nat → Nat → Int} {S : PS} {n0 a0 : Nat} {x1 x2 : Int}
    (v1 : -2147483648 ≤ 20 * x1 ∧ 20 * x1 ≤ 2147483647)
    (v2 : -2147483648 ≤ (20 * x1) + 1 ∧ (20 * x1) + 1 ≤ 2147483647)
    (v3 : 0 ≤ (20 * x1) + 1 ∧ (20 * x1) + 1 < (n0 : Nat))
    (v4 : (x2 ≠ I a0 ((20 * x1) + 1).toNat) → 0 ≤ 20 * x1 ∧ 20 * x1 < (n0 : Nat))
    (v5 : (x2 ≠ I a0 ((20 * x1) + 1).toNat) → -2147483648 ≤ (20 * x1) + 2 ∧ (20 * x1) + 2 ≤ 2147483647)
    (v6 : (x2 ≠ I a0 ((20 * x1) + 1).toNat) → -2147483648 ≤ ((20 * x1) + 2) + x2 ∧ ((20 * x1) + 2) + x2 ≤ 2147483647)
    (v7 : (x2 ≠ I a0 ((20 * x1) + 1).toNat) → 0 ≤ ((20 * x1) + 2) + x2 ∧ ((20 * x1) + 2) + x2 < (n0 : Nat))
    (v8 : (x2 ≠ I a0 ((20 * x1) + 1).toNat) → -2147483648 ≤ (I a0 (((20 * x1) + 2) + x2).toNat) - 1 ∧ (I a0 (((20 * x1) + 2) + x2).toNat) - 1 ≤ 2147483647)
    (v9 : (x2 ≠ I a0 ((20 * x1) + 1).toNat) → -2147483648 ≤ ((I a0 (((20 * x1) + 2) + x2).toNat) - 1) - (if (0 < x2) ∨ (I a0 ((20 * x1) + 1).toNat = I a0 (20 * x1).toNat) then (1 : Int) else 0) ∧ ((I a0 (((20 * x1) + 2) + x2).toNat) - 1) - (if (0 < x2) ∨ (I a0 ((20 * x1) + 1).toNat = I a0 (20 * x1).toNat) then (1 : Int) else 0) ≤ 2147483647)
    (v10 : (x2 ≠ I a0 ((20 * x1) + 1).toNat) → -2147483648 ≤ x2 + 1 ∧ x2 + 1 ≤ 2147483647)
    (v11 : (x2 ≠ I a0 ((20 * x1) + 1).toNat) → -2147483648 ≤ (((I a0 (((20 * x1) + 2) + x2).toNat) - 1) - (if (0 < x2) ∨ (I a0 ((20 * x1) + 1).toNat = I a0 (20 * x1).toNat) then (1 : Int) else 0)) - (if (x2 + 1 < I a0 ((20 * x1) + 1).toNat) ∨ (I a0 ((20 * x1) + 1).toNat = I a0 (20 * x1).toNat) then (1 : Int) else 0) ∧ (((I a0 (((20 * x1) + 2) + x2).toNat) - 1) - (if (0 < x2) ∨ (I a0 ((20 * x1) + 1).toNat = I a0 (20 * x1).toNat) then (1 : Int) else 0)) - (if (x2 + 1 < I a0 ((20 * x1) + 1).toNat) ∨ (I a0 ((20 * x1) + 1).toNat = I a0 (20 * x1).toNat) then (1 : Int) else 0) ≤ 2147483647)
    (v12 : (x2 = I a0 ((20 * x1) + 1).toNat) → 0 ≤ 20 * x1 ∧ 20 * x1 < (n0 : Nat))
    (v13 : (x2 = I a0 ((20 * x1) + 1).toNat) → -2147483648 ≤ (I a0 (20 * x1).toNat) - (I a0 ((20 * x1) + 1).toNat) ∧ (I a0 (20 * x1).toNat) - (I a0 ((20 * x1) + 1).toNat) ≤ 2147483647) : Ca d mX12_outer [vR (some (0, n0, a0)), vI x1, vI x2] (I, S) (.inl (some (vI (f_X12_outer I a0 x1 x2)))) (I, S) := c0_X12_outer v1 v2 v3 v4 v5 v6 v7 v8 v9 v10 v11 v12 v13
theorem c_X12_border {d : Nat} {I : Nat → Nat → Int} {S : PS} {n0 a0 : Nat} {x1 : Int}
    (v1 : -2147483648 ≤ 20 * x1 ∧ 20 * x1 ≤ 2147483647)
    (v2 : -2147483648 ≤ (20 * x1) + 1 ∧ (20 * x1) + 1 ≤ 2147483647)
    (v3 : 0 ≤ (20 * x1) + 1 ∧ (20 * x1) + 1 < (n0 : Nat))
    (v4 : 0 ≤ 20 * x1 ∧ 20 * x1 < (n0 : Nat))
    (v5 : (I a0 ((20 * x1) + 1).toNat ≠ I a0 (20 * x1).toNat) → -2147483648 ≤ (I a0 ((20 * x1) + 1).toNat) + 1 ∧ (I a0 ((20 * x1) + 1).toNat) + 1 ≤ 2147483647) : Ca d mX12_border [vR (some (0, n0, a0)), vI x1] (I, S) (.inl (some (vI (if I a0 ((20 * x1) + 1).toNat ≠ I a0 (20 * x1).toNat then ((I a0 ((20 * x1) + 1).toNat) + 1 : Int) else I a0 (20 * x1).toNat)))) (I, S) :=
  Ca.of rfl rfl (
  have K2 : ∀ us0 : Int, us0 = (if I a0 ((20 * x1) + 1).toNat ≠ I a0 (20 * x1).toNat then ((I a0 ((20 * x1) + 1).toNat) + 1 : Int) else I a0 (20 * x1).toNat) → Ev d mX12_border (36, [some (vR (some (0, n0, a0))), some (vI x1)], [vI us0], (I, S)) ((.inl (some (vI (if I a0 ((20 * x1) + 1).toNat ≠ I a0 (20 * x1).toNat then ((I a0 ((20 * x1) + 1).toNat) + 1 : Int) else I a0 (20 * x1).toNat)))), (I, S)) := fun us0 e_us0 => by subst e_us0; exact (ev_ret2 rfl rfl (b_X12_border_36 ))
  
  b_X12_border_0 v1 v2 v3 v1 v4 (fun (c1 : I a0 ((20 * x1) + 1).toNat ≠ I a0 (20 * x1).toNat) => 
    b_X12_border_26 v1 v2 v3 (v5 c1) (K2 ((I a0 ((20 * x1) + 1).toNat) + 1) ((if_pos c1).symm))) (fun (c2 : I a0 ((20 * x1) + 1).toNat = I a0 (20 * x1).toNat) => 
    b_X12_border_17 v1 v4 (K2 (I a0 (20 * x1).toNat) ((if_neg (fun q => q c2)).symm))))
theorem c_X12_joins {d : Nat} {I : Nat → Nat → Int} {S : PS} {x1 x2 x3 : Int} (hl0 : LyX12 S)
    (v1 : -2147483648 ≤ 15 * x1 ∧ 15 * x1 ≤ 2147483647)
    (v2 : -2147483648 ≤ (15 * x1) + x2 ∧ (15 * x1) + x2 ≤ 2147483647)
    (v3 : 0 ≤ (15 * x1) + x2 ∧ (15 * x1) + x2 < (60 : Nat))
    (v4 : -2147483648 ≤ (15 * x1) + x3 ∧ (15 * x1) + x3 ≤ 2147483647)
    (v5 : 0 ≤ (15 * x1) + x3 ∧ (15 * x1) + x3 < (60 : Nat)) : Ca d mX12_joins [vR (some (22, 0, 156)), vI x1, vI x2, vI x3] (I, S) (.inl none) ((up2 (up2 I 166 (((15 * x1) + x2).toNat) (p_or (I 166 ((15 * x1) + x2).toNat) (p_shl 1 x3))) 166 (((15 * x1) + x3).toNat) (p_or ((up2 I 166 (((15 * x1) + x2).toNat) (p_or (I 166 ((15 * x1) + x2).toNat) (p_shl 1 x3))) 166 ((15 * x1) + x3).toNat) (p_shl 1 x2))), S) :=
  Ca.of rfl rfl (ev_retV rfl (b_X12_joins_0 (ly_X12_26 hl0) v1 v2 v3 v3 v1 v4 v5 v5))
theorem c_X12_nearOf {d : Nat} {I : Nat → Nat → Int} {S : PS} {n0 a0 : Nat} {x1 x2 : Int}
    (v1 : -2147483648 ≤ 10 * x1 ∧ 10 * x1 ≤ 2147483647)
    (v2 : 0 ≤ 10 * x1 ∧ 10 * x1 < (n0 : Nat))
    (v3 : -2147483648 ≤ (10 * x1) + 1 ∧ (10 * x1) + 1 ≤ 2147483647)
    (v4 : -2147483648 ≤ x2 + (I a0 (10 * x1).toNat) ∧ x2 + (I a0 (10 * x1).toNat) ≤ 2147483647)
    (v5 : (0 ≤ x2 + (I a0 (10 * x1).toNat) ∧ x2 + (I a0 (10 * x1).toNat) ≤ 2147483647) ∧ 0 < I a0 (10 * x1).toNat ∧ I a0 (10 * x1).toNat ≤ 2147483647)
    (v6 : -2147483648 ≤ ((10 * x1) + 1) + ((x2 + (I a0 (10 * x1).toNat)) % (I a0 (10 * x1).toNat)) ∧ ((10 * x1) + 1) + ((x2 + (I a0 (10 * x1).toNat)) % (I a0 (10 * x1).toNat)) ≤ 2147483647)
    (v7 : 0 ≤ ((10 * x1) + 1) + ((x2 + (I a0 (10 * x1).toNat)) % (I a0 (10 * x1).toNat)) ∧ ((10 * x1) + 1) + ((x2 + (I a0 (10 * x1).toNat)) % (I a0 (10 * x1).toNat)) < (n0 : Nat)) : Ca d mX12_nearOf [vR (some (0, n0, a0)), vI x1, vI x2] (I, S) (.inl (some (vI (I a0 (((10 * x1) + 1) + ((x2 + (I a0 (10 * x1).toNat)) % (I a0 (10 * x1).toNat))).toNat)))) (I, S) :=
  Ca.of rfl rfl (ev_ret2 rfl rfl (b_X12_nearOf_0 v1 v2 v1 v3 v4 v5 v6 v7))
theorem c_X12_fault {d : Nat} {I : Nat → Nat → Int} {S : PS} (hl0 : LyX12 S) : Ca d mX12_fault [vR (some (22, 0, 156))] (I, S) (.inl (some (vI (I 156 4)))) ((up2 I 156 0 0), S) :=
  Ca.of rfl rfl (ev_ret2 rfl rfl (b_X12_fault_0 ))
theorem c_X12_isFirst {d : Nat} {I : Nat → Nat → Int} {S : PS} {x0 x1 : Int}
    (v1 : (x0 ≠ 0) → -2147483648 ≤ x1 + 1 ∧ x1 + 1 ≤ 2147483647) : Ca d mX12_isFirst [vI x0, vI x1] (I, S) (.inl (some (vI (if (x0 = 0) ∨ (x0 = x1 + 1) then (1 : Int) else 0)))) (I, S) :=
  Ca.of rfl rfl (
  have K4 : ∀ us0 : Int, us0 = (if (x0 = 0) ∨ (x0 = x1 + 1) then (1 : Int) else 0) → Ev d mX12_isFirst (16, [some (vI x0), some (vI x1)], [vI us0], (I, S)) ((.inl (some (vI (if (x0 = 0) ∨ (x0 = x1 + 1) then (1 : Int) else 0)))), (I, S)) := fun us0 e_us0 => by subst e_us0; exact (ev_ret2 rfl rfl (b_X12_isFirst_16 (ite01 _)))
  
  b_X12_isFirst_0  (fun (c1 : x0 = 0) => 
    b_X12_isFirst_11  (K4 1 (if_pos (Or.inl c1)).symm)) (fun (c2 : x0 ≠ 0) => 
    b_X12_isFirst_4 (v1 c2) (fun (c3 : x0 ≠ x1 + 1) => 
      b_X12_isFirst_15  (K4 0 (if_neg (fun q => q.elim c2 c3)).symm)) (fun (c4 : x0 = x1 + 1) => 
      b_X12_isFirst_11  (K4 1 (if_pos (Or.inr c4)).symm))))
theorem c_X12_otherOf {d : Nat} {I : Nat → Nat → Int} {S : PS} {x0 x1 : Int}
    (v1 : (x0 ≠ 0) → -2147483648 ≤ x1 + 1 ∧ x1 + 1 ≤ 2147483647)
    (v2 : (x0 ≠ 0) → (x0 ≠ x1 + 1) → -2147483648 ≤ 6 - x1 ∧ 6 - x1 ≤ 2147483647)
    (v3 : (x0 ≠ 0) → (x0 ≠ x1 + 1) → -2147483648 ≤ 6 - x1 - 1 ∧ 6 - x1 - 1 ≤ 2147483647)
    (v4 : (x0 ≠ 0) → (x0 ≠ x1 + 1) → -2147483648 ≤ 6 - x1 - 1 - x0 ∧ 6 - x1 - 1 - x0 ≤ 2147483647)
    (v5 : (x0 = 0) → -2147483648 ≤ x1 + 1 ∧ x1 + 1 ≤ 2147483647) : Ca d mX12_otherOf [vI x0, vI x1] (I, S) (.inl (some (vI (if x0 ≠ 0 then ((if x0 ≠ x1 + 1 then (6 - x1 - 1 - x0 : Int) else 0) : Int) else x1 + 1)))) (I, S) :=
  Ca.of rfl rfl (
  b_X12_otherOf_0  (fun (c1 : x0 ≠ 0) => 
    b_X12_otherOf_8 (v1 c1) (fun (c3 : x0 ≠ x1 + 1) => ev_ret2 ((if_pos c3).symm.trans (if_pos c1).symm) rfl (b_X12_otherOf_17 (v2 c1 c3) (v3 c1 c3) (v4 c1 c3))) (fun (c4 : x0 = x1 + 1) => ev_ret2 ((if_neg (fun q => q c4)).symm.trans (if_pos c1).symm) rfl (b_X12_otherOf_15 ))) (fun (c2 : x0 = 0) => ev_ret2 ((if_neg (fun q => q c2)).symm) rfl (b_X12_otherOf_4 (v5 c2))))
theorem c_X12_isPiece_y {d : Nat} {I : Nat → Nat → Int} {S : PS} {x1 : Int} (hl0 : LyX12 S)
    (v1 : I 156 0 = 0)
    (hP : ((0 ≤ x1) ∧ (x1 < I 156 13))) : Ca (d + 1) mX12_isPiece [vR (some (22, 0, 156)), vI x1] (I, S) (.inl (some (vI 1))) (I, S) :=
  Ca.of rfl rfl (
  have K4 : ∀ us1 : Int, us1 = (if (0 ≤ x1) ∧ (x1 < I 156 13) then (1 : Int) else 0) → Ev (d + 1) mX12_isPiece (18, [some (vR (some (22, 0, 156))), some (vI x1)], [vI us1, vR (some (22, 0, 156))], (I, S)) ((.inl (some (vI 1))), (I, S)) := fun us1 e_us1 => by subst e_us1; exact (
    (Classical.em (((0 ≤ x1) ∧ (x1 < I 156 13)))).elim (fun c6 => 
      b_X12_isPiece_18  (c_X12_right_y (b1 := (0 ≤ x1) ∧ (x1 < I 156 13)) hl0 v1 (by first | decide | exact (show (1 : Int) ≠ 0 from by decide)) c6) (ev_ret2 rfl rfl (b_X12_isPiece_22 (Or.inr rfl)))) (fun c7 => 
      b_X12_isPiece_18  (c_X12_right_n (b1 := (0 ≤ x1) ∧ (x1 < I 156 13)) hl0 v1 (by first | decide | exact (show (1 : Int) ≠ 0 from by decide)) c7) (absurd hP (fun q => c7 q))))
  
  b_X12_isPiece_0  (fun (c1 : x1 < 0) => 
    b_X12_isPiece_17  (K4 0 (if_neg (fun q => (Int.not_le.mpr c1) q.1)).symm)) (fun (c2 : 0 ≤ x1) => 
    b_X12_isPiece_5  (fun (c3 : I 156 13 ≤ x1) => 
      b_X12_isPiece_17  (K4 0 (if_neg (fun q => (Int.not_lt.mpr c3) q.2)).symm)) (fun (c4 : x1 < I 156 13) => 
      b_X12_isPiece_13  (K4 1 (if_pos ⟨c2, c4⟩).symm))))
theorem c_X12_isPiece_n {d : Nat} {I : Nat → Nat → Int} {S : PS} {x1 : Int} (hl0 : LyX12 S)
    (v1 : I 156 0 = 0)
    (hP : ¬(((0 ≤ x1) ∧ (x1 < I 156 13)))) : Ca (d + 1) mX12_isPiece [vR (some (22, 0, 156)), vI x1] (I, S) (.inl (some (vI 0))) ((up2 I 156 0 1), S) :=
  Ca.of rfl rfl (
  have K4 : ∀ us1 : Int, us1 = (if (0 ≤ x1) ∧ (x1 < I 156 13) then (1 : Int) else 0) → Ev (d + 1) mX12_isPiece (18, [some (vR (some (22, 0, 156))), some (vI x1)], [vI us1, vR (some (22, 0, 156))], (I, S)) ((.inl (some (vI 0))), ((up2 I 156 0 1), S)) := fun us1 e_us1 => by subst e_us1; exact (
    (Classical.em (((0 ≤ x1) ∧ (x1 < I 156 13)))).elim (fun c6 => 
      b_X12_isPiece_18  (c_X12_right_y (b1 := (0 ≤ x1) ∧ (x1 < I 156 13)) hl0 v1 (by first | decide | exact (show (1 : Int) ≠ 0 from by decide)) c6) (absurd c6 hP)) (fun c7 => 
      b_X12_isPiece_18  (c_X12_right_n (b1 := (0 ≤ x1) ∧ (x1 < I 156 13)) hl0 v1 (by first | decide | exact (show (1 : Int) ≠ 0 from by decide)) c7) (ev_ret2 rfl rfl (b_X12_isPiece_22 (Or.inl rfl)))))
  
  b_X12_isPiece_0  (fun (c1 : x1 < 0) => 
    b_X12_isPiece_17  (K4 0 (if_neg (fun q => (Int.not_le.mpr c1) q.1)).symm)) (fun (c2 : 0 ≤ x1) => 
    b_X12_isPiece_5  (fun (c3 : I 156 13 ≤ x1) => 
      b_X12_isPiece_17  (K4 0 (if_neg (fun q => (Int.not_lt.mpr c3) q.2)).symm)) (fun (c4 : x1 < I 156 13) => 
      b_X12_isPiece_13  (K4 1 (if_pos ⟨c2, c4⟩).symm))))
theorem c_X12_isColouring_y {d : Nat} {I : Nat → Nat → Int} {S : PS} {x1 x2 : Int} (hl0 : LyX12 S)
    (v1 : I 156 0 = 0)
    (v2 : ((((0 ≤ x1) ∧ (x1 < I 156 13)))) → (0 ≤ x2) → 0 ≤ x1 ∧ x1 < (4 : Nat))
    (hP : ((((0 ≤ x1) ∧ (x1 < I 156 13)))) ∧ (((0 ≤ x2) ∧ (x2 < I 167 x1.toNat)))) : Ca (d + 2) mX12_isColouring [vR (some (22, 0, 156)), vI x1, vI x2] (I, S) (.inl (some (vI 1))) (I, S) :=
  Ca.of rfl rfl (
  (Classical.em ((((0 ≤ x1) ∧ (x1 < I 156 13))))).elim (fun c1 => 
    b_X12_isColouring_0  (c_X12_isPiece_y hl0 v1 c1) (
    b_X12_isColouring_5  (fun c => absurd c (by decide)) (fun _ => 
      have K6 : ∀ us1 : Int, us1 = (if (0 ≤ x2) ∧ (x2 < I 167 x1.toNat) then (1 : Int) else 0) → Ev (d + 2) mX12_isColouring (28, [some (vR (some (22, 0, 156))), some (vI x1), some (vI x2)], [vI us1, vR (some (22, 0, 156))], (I, S)) ((.inl (some (vI 1))), (I, S)) := fun us1 e_us1 => by subst e_us1; exact (
        (Classical.em (((0 ≤ x2) ∧ (x2 < I 167 x1.toNat)))).elim (fun c8 => 
          b_X12_isColouring_28  (c_X12_right_y (b1 := (0 ≤ x2) ∧ (x2 < I 167 x1.toNat)) hl0 v1 (by first | decide | exact (show (1 : Int) ≠ 0 from by decide)) c8) (
          b_X12_isColouring_32  (fun c => absurd c (by decide)) (fun _ => 
            b_X12_isColouring_35  (ev_ret2 rfl rfl (b_X12_isColouring_40 (Or.inr rfl)))))) (fun c9 => 
          b_X12_isColouring_28  (c_X12_right_n (b1 := (0 ≤ x2) ∧ (x2 < I 167 x1.toNat)) hl0 v1 (by first | decide | exact (show (1 : Int) ≠ 0 from by decide)) c9) (
          b_X12_isColouring_32  (fun _ => 
            b_X12_isColouring_39  (absurd hP (fun q => (fun q => c9 q) q.2))) (fun c => absurd c (by decide)))))
      
      b_X12_isColouring_8  (fun (c3 : x2 < 0) => 
        b_X12_isColouring_27  (K6 0 (if_neg (fun q => (Int.not_le.mpr c3) q.1)).symm)) (fun (c4 : 0 ≤ x2) => 
        b_X12_isColouring_13 (ly_X12_27 hl0) (v2 c1 c4) (fun (c5 : I 167 x1.toNat ≤ x2) => 
          b_X12_isColouring_27  (K6 0 (if_neg (fun q => (Int.not_lt.mpr c5) q.2)).symm)) (fun (c6 : x2 < I 167 x1.toNat) => 
          b_X12_isColouring_23  (K6 1 (if_pos ⟨c4, c6⟩).symm)))))) (fun c2 => 
    b_X12_isColouring_0  (c_X12_isPiece_n hl0 v1 c2) (
    b_X12_isColouring_5  (fun _ => 
      b_X12_isColouring_39  (absurd hP (fun q => (fun q => c2 q) q.1))) (fun c => absurd c (by decide)))))
theorem c_X12_isColouring_n {d : Nat} {I : Nat → Nat → Int} {S : PS} {x1 x2 : Int} (hl0 : LyX12 S)
    (v1 : I 156 0 = 0)
    (v2 : ((((0 ≤ x1) ∧ (x1 < I 156 13)))) → (0 ≤ x2) → 0 ≤ x1 ∧ x1 < (4 : Nat))
    (hP : ¬(((((0 ≤ x1) ∧ (x1 < I 156 13)))) ∧ (((0 ≤ x2) ∧ (x2 < I 167 x1.toNat))))) : Ca (d + 2) mX12_isColouring [vR (some (22, 0, 156)), vI x1, vI x2] (I, S) (.inl (some (vI 0))) ((up2 I 156 0 1), S) :=
  Ca.of rfl rfl (
  (Classical.em ((((0 ≤ x1) ∧ (x1 < I 156 13))))).elim (fun c1 => 
    b_X12_isColouring_0  (c_X12_isPiece_y hl0 v1 c1) (
    b_X12_isColouring_5  (fun c => absurd c (by decide)) (fun _ => 
      have K6 : ∀ us1 : Int, us1 = (if (0 ≤ x2) ∧ (x2 < I 167 x1.toNat) then (1 : Int) else 0) → Ev (d + 2) mX12_isColouring (28, [some (vR (some (22, 0, 156))), some (vI x1), some (vI x2)], [vI us1, vR (some (22, 0, 156))], (I, S)) ((.inl (some (vI 0))), ((up2 I 156 0 1), S)) := fun us1 e_us1 => by subst e_us1; exact (
        (Classical.em (((0 ≤ x2) ∧ (x2 < I 167 x1.toNat)))).elim (fun c8 => 
          b_X12_isColouring_28  (c_X12_right_y (b1 := (0 ≤ x2) ∧ (x2 < I 167 x1.toNat)) hl0 v1 (by first | decide | exact (show (1 : Int) ≠ 0 from by decide)) c8) (
          b_X12_isColouring_32  (fun c => absurd c (by decide)) (fun _ => 
            b_X12_isColouring_35  (absurd (⟨c1, c8⟩) hP)))) (fun c9 => 
          b_X12_isColouring_28  (c_X12_right_n (b1 := (0 ≤ x2) ∧ (x2 < I 167 x1.toNat)) hl0 v1 (by first | decide | exact (show (1 : Int) ≠ 0 from by decide)) c9) (
          b_X12_isColouring_32  (fun _ => 
            b_X12_isColouring_39  (ev_ret2 rfl rfl (b_X12_isColouring_40 (Or.inl rfl)))) (fun c => absurd c (by decide)))))
      
      b_X12_isColouring_8  (fun (c3 : x2 < 0) => 
        b_X12_isColouring_27  (K6 0 (if_neg (fun q => (Int.not_le.mpr c3) q.1)).symm)) (fun (c4 : 0 ≤ x2) => 
        b_X12_isColouring_13 (ly_X12_27 hl0) (v2 c1 c4) (fun (c5 : I 167 x1.toNat ≤ x2) => 
          b_X12_isColouring_27  (K6 0 (if_neg (fun q => (Int.not_lt.mpr c5) q.2)).symm)) (fun (c6 : x2 < I 167 x1.toNat) => 
          b_X12_isColouring_23  (K6 1 (if_pos ⟨c4, c6⟩).symm)))))) (fun c2 => 
    b_X12_isColouring_0  (c_X12_isPiece_n hl0 v1 c2) (
    b_X12_isColouring_5  (fun _ => 
      b_X12_isColouring_39  (ev_ret2 rfl rfl (b_X12_isColouring_40 (Or.inl rfl)))) (fun c => absurd c (by decide)))))
theorem c_X12_isWhat_y {d : Nat} {I : Nat → Nat → Int} {S : PS} {x1 x2 : Int} (hl0 : LyX12 S)
    (v1 : I 156 0 = 0)
    (hP : ((0 ≤ x1) ∧ (x1 ≤ x2))) : Ca (d + 1) mX12_isWhat [vR (some (22, 0, 156)), vI x1, vI x2] (I, S) (.inl (some (vI 1))) (I, S) :=
  Ca.of rfl rfl (
  b_X12_isWhat_0  c_X12_within (
  (Classical.em (((0 ≤ x1) ∧ (x1 ≤ x2)))).elim (fun c1 => 
    b_X12_isWhat_7  (c_X12_right_y (b1 := (0 ≤ x1) ∧ (x1 ≤ x2)) hl0 v1 (by first | decide | exact (show (1 : Int) ≠ 0 from by decide)) c1) (ev_ret2 rfl rfl (b_X12_isWhat_11 (Or.inr rfl)))) (fun c2 => 
    b_X12_isWhat_7  (c_X12_right_n (b1 := (0 ≤ x1) ∧ (x1 ≤ x2)) hl0 v1 (by first | decide | exact (show (1 : Int) ≠ 0 from by decide)) c2) (absurd hP (fun q => c2 q)))))
theorem c_X12_isWhat_n {d : Nat} {I : Nat → Nat → Int} {S : PS} {x1 x2 : Int} (hl0 : LyX12 S)
    (v1 : I 156 0 = 0)
    (hP : ¬(((0 ≤ x1) ∧ (x1 ≤ x2)))) : Ca (d + 1) mX12_isWhat [vR (some (22, 0, 156)), vI x1, vI x2] (I, S) (.inl (some (vI 0))) ((up2 I 156 0 1), S) :=
  Ca.of rfl rfl (
  b_X12_isWhat_0  c_X12_within (
  (Classical.em (((0 ≤ x1) ∧ (x1 ≤ x2)))).elim (fun c1 => 
    b_X12_isWhat_7  (c_X12_right_y (b1 := (0 ≤ x1) ∧ (x1 ≤ x2)) hl0 v1 (by first | decide | exact (show (1 : Int) ≠ 0 from by decide)) c1) (absurd c1 hP)) (fun c2 => 
    b_X12_isWhat_7  (c_X12_right_n (b1 := (0 ≤ x1) ∧ (x1 ≤ x2)) hl0 v1 (by first | decide | exact (show (1 : Int) ≠ 0 from by decide)) c2) (ev_ret2 rfl rfl (b_X12_isWhat_11 (Or.inl rfl))))))
theorem c_X12_vertex {d : Nat} {I : Nat → Nat → Int} {S : PS} {x1 x2 : Int} (hl0 : LyX12 S)
    (v1 : ((((0 ≤ x1) ∧ (x1 < I 156 13)))) → (0 ≤ x2) → 0 ≤ x1 ∧ x1 < 4)
    (v2 : ((((0 ≤ x1) ∧ (x1 < I 156 13)))) → (0 ≤ x2) → 0 ≤ I 159 ((20 * x1) + 9).toNat ∧ I 159 ((20 * x1) + 9).toNat ≤ 7)
    (v3 : ((((0 ≤ x1) ∧ (x1 < I 156 13)))) → (0 ≤ x2) → 0 ≤ I 159 ((20 * x1) + 1).toNat ∧ I 159 ((20 * x1) + 1).toNat ≤ 7)
    (v4 : ((((0 ≤ x1) ∧ (x1 < I 156 13)))) → (((0 ≤ x2) ∧ (x2 < ((I 159 ((20 * x1) + 9).toNat) + 1) + (I 159 ((20 * x1) + 1).toNat)))) → -2147483648 ≤ 15 * x1 ∧ 15 * x1 ≤ 2147483647)
    (v5 : ((((0 ≤ x1) ∧ (x1 < I 156 13)))) → (((0 ≤ x2) ∧ (x2 < ((I 159 ((20 * x1) + 9).toNat) + 1) + (I 159 ((20 * x1) + 1).toNat)))) → -2147483648 ≤ (15 * x1) + x2 ∧ (15 * x1) + x2 ≤ 2147483647)
    (v6 : ((((0 ≤ x1) ∧ (x1 < I 156 13)))) → (((0 ≤ x2) ∧ (x2 < ((I 159 ((20 * x1) + 9).toNat) + 1) + (I 159 ((20 * x1) + 1).toNat)))) → 0 ≤ (15 * x1) + x2 ∧ (15 * x1) + x2 < (60 : Nat)) : Ca (d + 2) mX12_vertex [vR (some (22, 0, 156)), vI x1, vI x2] (I, S) (.inl (some (vI (if (((0 ≤ x1) ∧ (x1 < I 156 13))) then ((if ((0 ≤ x2) ∧ (x2 < ((I 159 ((20 * x1) + 9).toNat) + 1) + (I 159 ((20 * x1) + 1).toNat))) then (I 165 ((15 * x1) + x2).toNat : Int) else 0) : Int) else 0)))) ((if (((0 ≤ x1) ∧ (x1 < I 156 13))) then (if ((0 ≤ x2) ∧ (x2 < ((I 159 ((20 * x1) + 9).toNat) + 1) + (I 159 ((20 * x1) + 1).toNat))) then (up2 I 156 0 0) else (up2 (up2 I 156 0 0) 156 0 1)) else (up2 (up2 I 156 0 0) 156 0 1)), S) :=
  Ca.of rfl rfl (
  (Classical.em ((((0 ≤ x1) ∧ (x1 < I 156 13))))).elim (fun c1 => 
    b_X12_vertex_0  (c_X12_isPiece_y hl0 (by first | decide | exact (show 0 = 0 from by decide)) c1) (
    b_X12_vertex_10  (fun c => absurd c (by decide)) (fun _ => 
      have K6 : ∀ us1 : Int, us1 = (if (0 ≤ x2) ∧ (x2 < ((I 159 ((20 * x1) + 9).toNat) + 1) + (I 159 ((20 * x1) + 1).toNat)) then (1 : Int) else 0) → Ev (d + 2) mX12_vertex (32, [some (vR (some (22, 0, 156))), some (vI x1), some (vI x2)], [vI us1, vR (some (22, 0, 156))], ((up2 I 156 0 0), S)) ((.inl (some (vI (if (((0 ≤ x1) ∧ (x1 < I 156 13))) then ((if ((0 ≤ x2) ∧ (x2 < ((I 159 ((20 * x1) + 9).toNat) + 1) + (I 159 ((20 * x1) + 1).toNat))) then (I 165 ((15 * x1) + x2).toNat : Int) else 0) : Int) else 0)))), ((if (((0 ≤ x1) ∧ (x1 < I 156 13))) then (if ((0 ≤ x2) ∧ (x2 < ((I 159 ((20 * x1) + 9).toNat) + 1) + (I 159 ((20 * x1) + 1).toNat))) then (up2 I 156 0 0) else (up2 (up2 I 156 0 0) 156 0 1)) else (up2 (up2 I 156 0 0) 156 0 1)), S)) := fun us1 e_us1 => by subst e_us1; exact (
        (Classical.em (((0 ≤ x2) ∧ (x2 < ((I 159 ((20 * x1) + 9).toNat) + 1) + (I 159 ((20 * x1) + 1).toNat))))).elim (fun c8 => 
          b_X12_vertex_32  (c_X12_right_y (b1 := (0 ≤ x2) ∧ (x2 < ((I 159 ((20 * x1) + 9).toNat) + 1) + (I 159 ((20 * x1) + 1).toNat))) hl0 (by first | decide | exact (show 0 = 0 from by decide)) (by first | decide | exact (show (1 : Int) ≠ 0 from by decide)) c8) (
          b_X12_vertex_36  (fun _ => ev_ret2 ((if_pos c8).symm.trans (if_pos c1).symm) (prEq ((if_pos c8).symm.trans (if_pos c1).symm) rfl) (b_X12_vertex_41 (ly_X12_25 hl0) (v4 c1 c8) (v5 c1 c8) (v6 c1 c8))) (fun c => absurd c (by decide)))) (fun c9 => 
          b_X12_vertex_32  (c_X12_right_n (b1 := (0 ≤ x2) ∧ (x2 < ((I 159 ((20 * x1) + 9).toNat) + 1) + (I 159 ((20 * x1) + 1).toNat))) hl0 (by first | decide | exact (show 0 = 0 from by decide)) (by first | decide | exact (show (1 : Int) ≠ 0 from by decide)) c9) (
          b_X12_vertex_36  (fun c => absurd c (by decide)) (fun _ => ev_ret2 ((if_neg (fun q => c9 q)).symm.trans (if_pos c1).symm) (prEq ((if_neg (fun q => c9 q)).symm.trans (if_pos c1).symm) rfl) (b_X12_vertex_39 )))))
      
      b_X12_vertex_13  (fun (c3 : x2 < 0) => 
        b_X12_vertex_31  (K6 0 (if_neg (fun q => (Int.not_le.mpr c3) q.1)).symm)) (fun (c4 : 0 ≤ x2) => 
        b_X12_vertex_18  (c_X12_vertices hl0 (v1 c1 c4) (v2 c1 c4) (v3 c1 c4)) (
        b_X12_vertex_24  (fun (c5 : ((I 159 ((20 * x1) + 9).toNat) + 1) + (I 159 ((20 * x1) + 1).toNat) ≤ x2) => 
          b_X12_vertex_31  (K6 0 (if_neg (fun q => (Int.not_lt.mpr c5) q.2)).symm)) (fun (c6 : x2 < ((I 159 ((20 * x1) + 9).toNat) + 1) + (I 159 ((20 * x1) + 1).toNat)) => 
          b_X12_vertex_27  (K6 1 (if_pos ⟨c4, c6⟩).symm))))))) (fun c2 => 
    b_X12_vertex_0  (c_X12_isPiece_n hl0 (by first | decide | exact (show 0 = 0 from by decide)) c2) (
    b_X12_vertex_10  (fun _ => ev_ret2 ((if_neg (fun q => c2 q)).symm) (prEq ((if_neg (fun q => c2 q)).symm) rfl) (b_X12_vertex_39 )) (fun c => absurd c (by decide)))))
theorem c_X12_colour {d : Nat} {I : Nat → Nat → Int} {S : PS} {x1 x2 x3 : Int} (hl0 : LyX12 S)
    (v1 : ((((0 ≤ x1) ∧ (x1 < I 156 13)))) → (0 ≤ x2) → 0 ≤ x1 ∧ x1 < (4 : Nat))
    (v2 : ((((((0 ≤ x1) ∧ (x1 < I 156 13)))) ∧ (((0 ≤ x2) ∧ (x2 < (up2 I 156 0 0) 167 x1.toNat))))) → (0 ≤ x3) → 0 ≤ x1 ∧ x1 < 4)
    (v3 : ((((((0 ≤ x1) ∧ (x1 < I 156 13)))) ∧ (((0 ≤ x2) ∧ (x2 < (up2 I 156 0 0) 167 x1.toNat))))) → (((0 ≤ x3) ∧ (x3 < I 159 ((20 * x1) + 9).toNat))) → -2147483648 ≤ 96 * x1 ∧ 96 * x1 ≤ 2147483647)
    (v4 : ((((((0 ≤ x1) ∧ (x1 < I 156 13)))) ∧ (((0 ≤ x2) ∧ (x2 < (up2 I 156 0 0) 167 x1.toNat))))) → (((0 ≤ x3) ∧ (x3 < I 159 ((20 * x1) + 9).toNat))) → -2147483648 ≤ (96 * x1) + x2 ∧ (96 * x1) + x2 ≤ 2147483647)
    (v5 : ((((((0 ≤ x1) ∧ (x1 < I 156 13)))) ∧ (((0 ≤ x2) ∧ (x2 < (up2 I 156 0 0) 167 x1.toNat))))) → (((0 ≤ x3) ∧ (x3 < I 159 ((20 * x1) + 9).toNat))) → 0 ≤ (96 * x1) + x2 ∧ (96 * x1) + x2 < (384 : Nat))
    (v6 : ((((((0 ≤ x1) ∧ (x1 < I 156 13)))) ∧ (((0 ≤ x2) ∧ (x2 < (up2 I 156 0 0) 167 x1.toNat))))) → (((0 ≤ x3) ∧ (x3 < I 159 ((20 * x1) + 9).toNat))) → 0 ≤ x1 ∧ x1 < 4)
    (v7 : ((((((0 ≤ x1) ∧ (x1 < I 156 13)))) ∧ (((0 ≤ x2) ∧ (x2 < (up2 I 156 0 0) 167 x1.toNat))))) → (((0 ≤ x3) ∧ (x3 < I 159 ((20 * x1) + 9).toNat))) → 0 ≤ I 159 ((20 * x1) + 9).toNat ∧ I 159 ((20 * x1) + 9).toNat ≤ 7)
    (v8 : ((((((0 ≤ x1) ∧ (x1 < I 156 13)))) ∧ (((0 ≤ x2) ∧ (x2 < (up2 I 156 0 0) 167 x1.toNat))))) → (((0 ≤ x3) ∧ (x3 < I 159 ((20 * x1) + 9).toNat))) → 0 ≤ x3 ∧ x3 ≤ 7) : Ca (d + 3) mX12_colour [vR (some (22, 0, 156)), vI x1, vI x2, vI x3] (I, S) (.inl (some (vI (if (((((0 ≤ x1) ∧ (x1 < I 156 13)))) ∧ (((0 ≤ x2) ∧ (x2 < (up2 I 156 0 0) 167 x1.toNat)))) then ((if ((0 ≤ x3) ∧ (x3 < I 159 ((20 * x1) + 9).toNat)) then (p_and (p_shr (I 168 ((96 * x1) + x2).toNat) (2 * (((I 159 ((20 * x1) + 9).toNat) - 1) - x3))) 3 : Int) else 0) : Int) else 0)))) ((if (((((0 ≤ x1) ∧ (x1 < I 156 13)))) ∧ (((0 ≤ x2) ∧ (x2 < (up2 I 156 0 0) 167 x1.toNat)))) then (if ((0 ≤ x3) ∧ (x3 < I 159 ((20 * x1) + 9).toNat)) then (up2 I 156 0 0) else (up2 (up2 I 156 0 0) 156 0 1)) else (up2 (up2 I 156 0 0) 156 0 1)), S) :=
  Ca.of rfl rfl (
  (Classical.em ((((((0 ≤ x1) ∧ (x1 < I 156 13)))) ∧ (((0 ≤ x2) ∧ (x2 < (up2 I 156 0 0) 167 x1.toNat)))))).elim (fun c1 => 
    b_X12_colour_0  (c_X12_isColouring_y hl0 (by first | decide | exact (show 0 = 0 from by decide)) v1 c1) (
    b_X12_colour_11  (fun c => absurd c (by decide)) (fun _ => 
      have K6 : ∀ us1 : Int, us1 = (if (0 ≤ x3) ∧ (x3 < I 159 ((20 * x1) + 9).toNat) then (1 : Int) else 0) → Ev (d + 3) mX12_colour (33, [some (vR (some (22, 0, 156))), some (vI x1), some (vI x2), some (vI x3)], [vI us1, vR (some (22, 0, 156))], ((up2 I 156 0 0), S)) ((.inl (some (vI (if (((((0 ≤ x1) ∧ (x1 < I 156 13)))) ∧ (((0 ≤ x2) ∧ (x2 < (up2 I 156 0 0) 167 x1.toNat)))) then ((if ((0 ≤ x3) ∧ (x3 < I 159 ((20 * x1) + 9).toNat)) then (p_and (p_shr (I 168 ((96 * x1) + x2).toNat) (2 * (((I 159 ((20 * x1) + 9).toNat) - 1) - x3))) 3 : Int) else 0) : Int) else 0)))), ((if (((((0 ≤ x1) ∧ (x1 < I 156 13)))) ∧ (((0 ≤ x2) ∧ (x2 < (up2 I 156 0 0) 167 x1.toNat)))) then (if ((0 ≤ x3) ∧ (x3 < I 159 ((20 * x1) + 9).toNat)) then (up2 I 156 0 0) else (up2 (up2 I 156 0 0) 156 0 1)) else (up2 (up2 I 156 0 0) 156 0 1)), S)) := fun us1 e_us1 => by subst e_us1; exact (
        (Classical.em (((0 ≤ x3) ∧ (x3 < I 159 ((20 * x1) + 9).toNat)))).elim (fun c8 => 
          b_X12_colour_33  (c_X12_right_y (b1 := (0 ≤ x3) ∧ (x3 < I 159 ((20 * x1) + 9).toNat)) hl0 (by first | decide | exact (show 0 = 0 from by decide)) (by first | decide | exact (show (1 : Int) ≠ 0 from by decide)) c8) (
          b_X12_colour_37  (fun _ => 
            b_X12_colour_42 (ly_X12_28 hl0) (v3 c1 c8) (v4 c1 c8) (v5 c1 c8) (c_X12_colourAt hl0 (v6 c1 c8) (v7 c1 c8) (v8 c1 c8)) (ev_ret2 ((if_pos c8).symm.trans (if_pos c1).symm) (prEq ((if_pos c8).symm.trans (if_pos c1).symm) rfl) (b_X12_colour_59 ))) (fun c => absurd c (by decide)))) (fun c9 => 
          b_X12_colour_33  (c_X12_right_n (b1 := (0 ≤ x3) ∧ (x3 < I 159 ((20 * x1) + 9).toNat)) hl0 (by first | decide | exact (show 0 = 0 from by decide)) (by first | decide | exact (show (1 : Int) ≠ 0 from by decide)) c9) (
          b_X12_colour_37  (fun c => absurd c (by decide)) (fun _ => ev_ret2 ((if_neg (fun q => c9 q)).symm.trans (if_pos c1).symm) (prEq ((if_neg (fun q => c9 q)).symm.trans (if_pos c1).symm) rfl) (b_X12_colour_40 )))))
      
      b_X12_colour_14  (fun (c3 : x3 < 0) => 
        b_X12_colour_32  (K6 0 (if_neg (fun q => (Int.not_le.mpr c3) q.1)).symm)) (fun (c4 : 0 ≤ x3) => 
        b_X12_colour_19  (c_X12_ring hl0 (v2 c1 c4)) (
        b_X12_colour_25  (fun (c5 : I 159 ((20 * x1) + 9).toNat ≤ x3) => 
          b_X12_colour_32  (K6 0 (if_neg (fun q => (Int.not_lt.mpr c5) q.2)).symm)) (fun (c6 : x3 < I 159 ((20 * x1) + 9).toNat) => 
          b_X12_colour_28  (K6 1 (if_pos ⟨c4, c6⟩).symm))))))) (fun c2 => 
    b_X12_colour_0  (c_X12_isColouring_n hl0 (by first | decide | exact (show 0 = 0 from by decide)) v1 c2) (
    b_X12_colour_11  (fun _ => ev_ret2 ((if_neg (fun q => c2 q)).symm) (prEq ((if_neg (fun q => c2 q)).symm) rfl) (b_X12_colour_40 )) (fun c => absurd c (by decide)))))
theorem c_X12_level {d : Nat} {I : Nat → Nat → Int} {S : PS} {x1 x2 : Int} (hl0 : LyX12 S)
    (v1 : ((((0 ≤ x1) ∧ (x1 < I 156 13)))) → (0 ≤ x2) → 0 ≤ x1 ∧ x1 < (4 : Nat))
    (v2 : ((((((0 ≤ x1) ∧ (x1 < I 156 13)))) ∧ (((0 ≤ x2) ∧ (x2 < (up2 I 156 0 0) 167 x1.toNat))))) → -2147483648 ≤ 96 * x1 ∧ 96 * x1 ≤ 2147483647)
    (v3 : ((((((0 ≤ x1) ∧ (x1 < I 156 13)))) ∧ (((0 ≤ x2) ∧ (x2 < (up2 I 156 0 0) 167 x1.toNat))))) → -2147483648 ≤ (96 * x1) + x2 ∧ (96 * x1) + x2 ≤ 2147483647)
    (v4 : ((((((0 ≤ x1) ∧ (x1 < I 156 13)))) ∧ (((0 ≤ x2) ∧ (x2 < (up2 I 156 0 0) 167 x1.toNat))))) → 0 ≤ (96 * x1) + x2 ∧ (96 * x1) + x2 < (384 : Nat)) : Ca (d + 3) mX12_level [vR (some (22, 0, 156)), vI x1, vI x2] (I, S) (.inl (some (vI (if (((((0 ≤ x1) ∧ (x1 < I 156 13)))) ∧ (((0 ≤ x2) ∧ (x2 < (up2 I 156 0 0) 167 x1.toNat)))) then (I 171 ((96 * x1) + x2).toNat : Int) else 0)))) ((if (((((0 ≤ x1) ∧ (x1 < I 156 13)))) ∧ (((0 ≤ x2) ∧ (x2 < (up2 I 156 0 0) 167 x1.toNat)))) then (up2 I 156 0 0) else (up2 (up2 I 156 0 0) 156 0 1)), S) :=
  Ca.of rfl rfl (
  (Classical.em ((((((0 ≤ x1) ∧ (x1 < I 156 13)))) ∧ (((0 ≤ x2) ∧ (x2 < (up2 I 156 0 0) 167 x1.toNat)))))).elim (fun c1 => 
    b_X12_level_0  (c_X12_isColouring_y hl0 (by first | decide | exact (show 0 = 0 from by decide)) v1 c1) (
    b_X12_level_11  (fun c => absurd c (by decide)) (fun _ => 
      b_X12_level_14 (ly_X12_31 hl0) (v2 c1) (v3 c1) (v4 c1) (ev_ret2 ((if_pos c1).symm) (prEq ((if_pos c1).symm) rfl) (b_X12_level_29 ))))) (fun c2 => 
    b_X12_level_0  (c_X12_isColouring_n hl0 (by first | decide | exact (show 0 = 0 from by decide)) v1 c2) (
    b_X12_level_11  (fun _ => 
      b_X12_level_28  (ev_ret2 ((if_neg (fun q => c2 q)).symm) (prEq ((if_neg (fun q => c2 q)).symm) rfl) (b_X12_level_29 ))) (fun c => absurd c (by decide)))))
theorem c_X12_rule {d : Nat} {I : Nat → Nat → Int} {S : PS} {x1 x2 : Int} (hl0 : LyX12 S)
    (v1 : (((0 ≤ x1) ∧ (x1 < I 156 14))) → ((((0 ≤ x2) ∧ (x2 ≤ 7)))) → (x2 ≠ 0) → -2147483648 ≤ 8 * x1 ∧ 8 * x1 ≤ 2147483647)
    (v2 : (((0 ≤ x1) ∧ (x1 < I 156 14))) → ((((0 ≤ x2) ∧ (x2 ≤ 7)))) → (x2 ≠ 0) → -2147483648 ≤ (8 * x1) + x2 ∧ (8 * x1) + x2 ≤ 2147483647)
    (v3 : (((0 ≤ x1) ∧ (x1 < I 156 14))) → ((((0 ≤ x2) ∧ (x2 ≤ 7)))) → (x2 ≠ 0) → 0 ≤ (8 * x1) + x2 ∧ (8 * x1) + x2 < (48 : Nat))
    (v4 : (((0 ≤ x1) ∧ (x1 < I 156 14))) → ((((0 ≤ x2) ∧ (x2 ≤ 7)))) → (x2 = 0) → -2147483648 ≤ 12 + x1 ∧ 12 + x1 ≤ 2147483647)
    (v5 : (((0 ≤ x1) ∧ (x1 < I 156 14))) → ((((0 ≤ x2) ∧ (x2 ≤ 7)))) → (x2 = 0) → 0 ≤ 12 + x1 ∧ 12 + x1 < (36 : Nat)) : Ca (d + 2) mX12_rule [vR (some (22, 0, 156)), vI x1, vI x2] (I, S) (.inl (some (vI (if ((0 ≤ x1) ∧ (x1 < I 156 14)) then ((if (((0 ≤ x2) ∧ (x2 ≤ 7))) then ((if x2 ≠ 0 then (I 160 ((8 * x1) + x2).toNat : Int) else I 178 (12 + x1).toNat) : Int) else 0) : Int) else 0)))) ((if ((0 ≤ x1) ∧ (x1 < I 156 14)) then (if (((0 ≤ x2) ∧ (x2 ≤ 7))) then (up2 I 156 0 0) else (up2 (up2 I 156 0 0) 156 0 1)) else (up2 (up2 I 156 0 0) 156 0 1)), S) :=
  Ca.of rfl rfl (
  have K4 : ∀ us1 : Int, us1 = (if (0 ≤ x1) ∧ (x1 < I 156 14) then (1 : Int) else 0) → Ev (d + 2) mX12_rule (23, [some (vR (some (22, 0, 156))), some (vI x1), some (vI x2)], [vI us1, vR (some (22, 0, 156))], ((up2 I 156 0 0), S)) ((.inl (some (vI (if ((0 ≤ x1) ∧ (x1 < I 156 14)) then ((if (((0 ≤ x2) ∧ (x2 ≤ 7))) then ((if x2 ≠ 0 then (I 160 ((8 * x1) + x2).toNat : Int) else I 178 (12 + x1).toNat) : Int) else 0) : Int) else 0)))), ((if ((0 ≤ x1) ∧ (x1 < I 156 14)) then (if (((0 ≤ x2) ∧ (x2 ≤ 7))) then (up2 I 156 0 0) else (up2 (up2 I 156 0 0) 156 0 1)) else (up2 (up2 I 156 0 0) 156 0 1)), S)) := fun us1 e_us1 => by subst e_us1; exact (
    (Classical.em (((0 ≤ x1) ∧ (x1 < I 156 14)))).elim (fun c6 => 
      b_X12_rule_23  (c_X12_right_y (b1 := (0 ≤ x1) ∧ (x1 < I 156 14)) hl0 (by first | decide | exact (show 0 = 0 from by decide)) (by first | decide | exact (show (1 : Int) ≠ 0 from by decide)) c6) (
      b_X12_rule_27  (fun c => absurd c (by decide)) (fun _ => 
        (Classical.em ((((0 ≤ x2) ∧ (x2 ≤ 7))))).elim (fun c8 => 
          b_X12_rule_30  (c_X12_isWhat_y hl0 (by first | decide | exact (show 0 = 0 from by decide)) c8) (
          b_X12_rule_37  (fun _ => 
            have K11 : ∀ us0 : Int, us0 = (if x2 ≠ 0 then (I 160 ((8 * x1) + x2).toNat : Int) else I 178 (12 + x1).toNat) → Ev (d + 2) mX12_rule (69, [some (vR (some (22, 0, 156))), some (vI x1), some (vI x2)], [vI us0], ((up2 I 156 0 0), S)) ((.inl (some (vI (if ((0 ≤ x1) ∧ (x1 < I 156 14)) then ((if (((0 ≤ x2) ∧ (x2 ≤ 7))) then ((if x2 ≠ 0 then (I 160 ((8 * x1) + x2).toNat : Int) else I 178 (12 + x1).toNat) : Int) else 0) : Int) else 0)))), ((if ((0 ≤ x1) ∧ (x1 < I 156 14)) then (if (((0 ≤ x2) ∧ (x2 ≤ 7))) then (up2 I 156 0 0) else (up2 (up2 I 156 0 0) 156 0 1)) else (up2 (up2 I 156 0 0) 156 0 1)), S)) := fun us0 e_us0 => by subst e_us0; exact (ev_ret2 ((if_pos c8).symm.trans (if_pos c6).symm) (prEq ((if_pos c8).symm.trans (if_pos c6).symm) rfl) (b_X12_rule_69 ))
            
            b_X12_rule_42  (fun (c10 : x2 ≠ 0) => 
              b_X12_rule_58 (ly_X12_20 hl0) (v1 c6 c8 c10) (v2 c6 c8 c10) (v3 c6 c8 c10) (K11 (I 160 ((8 * x1) + x2).toNat) ((if_pos c10).symm))) (fun (c11 : x2 = 0) => 
              b_X12_rule_46 (ly_X12_39 hl0) (v4 c6 c8 c11) (v5 c6 c8 c11) (K11 (I 178 (12 + x1).toNat) ((if_neg (fun q => q c11)).symm)))) (fun c => absurd c (by decide)))) (fun c9 => 
          b_X12_rule_30  (c_X12_isWhat_n hl0 (by first | decide | exact (show 0 = 0 from by decide)) c9) (
          b_X12_rule_37  (fun c => absurd c (by decide)) (fun _ => ev_ret2 ((if_neg (fun q => c9 q)).symm.trans (if_pos c6).symm) (prEq ((if_neg (fun q => c9 q)).symm.trans (if_pos c6).symm) rfl) (b_X12_rule_40 ))))))) (fun c7 => 
      b_X12_rule_23  (c_X12_right_n (b1 := (0 ≤ x1) ∧ (x1 < I 156 14)) hl0 (by first | decide | exact (show 0 = 0 from by decide)) (by first | decide | exact (show (1 : Int) ≠ 0 from by decide)) c7) (
      b_X12_rule_27  (fun _ => ev_ret2 ((if_neg (fun q => c7 q)).symm) (prEq ((if_neg (fun q => c7 q)).symm) rfl) (b_X12_rule_40 )) (fun c => absurd c (by decide)))))
  
  b_X12_rule_0  (fun (c1 : x1 < 0) => 
    b_X12_rule_22  (K4 0 (if_neg (fun q => (Int.not_le.mpr c1) q.1)).symm)) (fun (c2 : 0 ≤ x1) => 
    b_X12_rule_10  (fun (c3 : I 156 14 ≤ x1) => 
      b_X12_rule_22  (K4 0 (if_neg (fun q => (Int.not_lt.mpr c3) q.2)).symm)) (fun (c4 : x1 < I 156 14) => 
      b_X12_rule_18  (K4 1 (if_pos ⟨c2, c4⟩).symm))))
theorem c_X12_refuses {d : Nat} {I : Nat → Nat → Int} {S : PS} {x1 : Int} (hl0 : LyX12 S)
    (v1 : 0 ≤ x1 ∧ x1 < (3 : Nat))
    (v2 : -2147483648 ≤ I 158 x1.toNat + 1 ∧ I 158 x1.toNat + 1 ≤ 2147483647) : Ca d mX12_refuses [vR (some (22, 0, 156)), vI x1] (I, S) (.inl (some (vI (-1)))) ((up2 I 158 (x1.toNat) (I 158 x1.toNat + 1)), S) :=
  Ca.of rfl rfl (ev_ret2 rfl rfl (b_X12_refuses_0 (ly_X12_5 hl0) v1 v2 v1))
theorem c_X12_isSpot_y {d : Nat} {I : Nat → Nat → Int} {S : PS} {x1 : Int} (hl0 : LyX12 S)
    (v1 : I 156 0 = 0)
    (hP : ((0 ≤ x1) ∧ (x1 < I 156 15))) : Ca (d + 1) mX12_isSpot [vR (some (22, 0, 156)), vI x1] (I, S) (.inl (some (vI 1))) (I, S) :=
  Ca.of rfl rfl (
  have K4 : ∀ us1 : Int, us1 = (if (0 ≤ x1) ∧ (x1 < I 156 15) then (1 : Int) else 0) → Ev (d + 1) mX12_isSpot (18, [some (vR (some (22, 0, 156))), some (vI x1)], [vI us1, vR (some (22, 0, 156))], (I, S)) ((.inl (some (vI 1))), (I, S)) := fun us1 e_us1 => by subst e_us1; exact (
    (Classical.em (((0 ≤ x1) ∧ (x1 < I 156 15)))).elim (fun c6 => 
      b_X12_isSpot_18  (c_X12_right_y (b1 := (0 ≤ x1) ∧ (x1 < I 156 15)) hl0 v1 (by first | decide | exact (show (1 : Int) ≠ 0 from by decide)) c6) (ev_ret2 rfl rfl (b_X12_isSpot_22 (Or.inr rfl)))) (fun c7 => 
      b_X12_isSpot_18  (c_X12_right_n (b1 := (0 ≤ x1) ∧ (x1 < I 156 15)) hl0 v1 (by first | decide | exact (show (1 : Int) ≠ 0 from by decide)) c7) (absurd hP (fun q => c7 q))))
  
  b_X12_isSpot_0  (fun (c1 : x1 < 0) => 
    b_X12_isSpot_17  (K4 0 (if_neg (fun q => (Int.not_le.mpr c1) q.1)).symm)) (fun (c2 : 0 ≤ x1) => 
    b_X12_isSpot_5  (fun (c3 : I 156 15 ≤ x1) => 
      b_X12_isSpot_17  (K4 0 (if_neg (fun q => (Int.not_lt.mpr c3) q.2)).symm)) (fun (c4 : x1 < I 156 15) => 
      b_X12_isSpot_13  (K4 1 (if_pos ⟨c2, c4⟩).symm))))
theorem c_X12_isSpot_n {d : Nat} {I : Nat → Nat → Int} {S : PS} {x1 : Int} (hl0 : LyX12 S)
    (v1 : I 156 0 = 0)
    (hP : ¬(((0 ≤ x1) ∧ (x1 < I 156 15)))) : Ca (d + 1) mX12_isSpot [vR (some (22, 0, 156)), vI x1] (I, S) (.inl (some (vI 0))) ((up2 I 156 0 1), S) :=
  Ca.of rfl rfl (
  have K4 : ∀ us1 : Int, us1 = (if (0 ≤ x1) ∧ (x1 < I 156 15) then (1 : Int) else 0) → Ev (d + 1) mX12_isSpot (18, [some (vR (some (22, 0, 156))), some (vI x1)], [vI us1, vR (some (22, 0, 156))], (I, S)) ((.inl (some (vI 0))), ((up2 I 156 0 1), S)) := fun us1 e_us1 => by subst e_us1; exact (
    (Classical.em (((0 ≤ x1) ∧ (x1 < I 156 15)))).elim (fun c6 => 
      b_X12_isSpot_18  (c_X12_right_y (b1 := (0 ≤ x1) ∧ (x1 < I 156 15)) hl0 v1 (by first | decide | exact (show (1 : Int) ≠ 0 from by decide)) c6) (absurd c6 hP)) (fun c7 => 
      b_X12_isSpot_18  (c_X12_right_n (b1 := (0 ≤ x1) ∧ (x1 < I 156 15)) hl0 v1 (by first | decide | exact (show (1 : Int) ≠ 0 from by decide)) c7) (ev_ret2 rfl rfl (b_X12_isSpot_22 (Or.inl rfl)))))
  
  b_X12_isSpot_0  (fun (c1 : x1 < 0) => 
    b_X12_isSpot_17  (K4 0 (if_neg (fun q => (Int.not_le.mpr c1) q.1)).symm)) (fun (c2 : 0 ≤ x1) => 
    b_X12_isSpot_5  (fun (c3 : I 156 15 ≤ x1) => 
      b_X12_isSpot_17  (K4 0 (if_neg (fun q => (Int.not_lt.mpr c3) q.2)).symm)) (fun (c4 : x1 < I 156 15) => 
      b_X12_isSpot_13  (K4 1 (if_pos ⟨c2, c4⟩).symm))))
theorem c_X12_canSwap {d : Nat} {I : Nat → Nat → Int} {S : PS} {x1 x2 x3 : Int} (hl0 : LyX12 S)
    (v1 : -2147483648 ≤ x1 + x2 ∧ x1 + x2 ≤ 2147483647)
    (v2 : 0 ≤ x1 + x2 ∧ x1 + x2 < (36 : Nat)) : Ca (d + 1) mX12_canSwap [vR (some (22, 0, 156)), vI x1, vI x2, vI x3] (I, S) (.inl (some (vI (if (I 178 (x1 + x2).toNat ≠ (-1)) ∧ (((0 ≤ x3) ∧ (x3 ≤ 3)) ∧ (I 178 (x1 + x2).toNat ≠ x3)) then (1 : Int) else 0)))) (I, S) :=
  Ca.of rfl rfl (
  have K6 : ∀ us0 : Int, us0 = (if (I 178 (x1 + x2).toNat ≠ (-1)) ∧ (((0 ≤ x3) ∧ (x3 ≤ 3)) ∧ (I 178 (x1 + x2).toNat ≠ x3)) then (1 : Int) else 0) → Ev (d + 1) mX12_canSwap (38, [some (vR (some (22, 0, 156))), some (vI x1), some (vI x2), some (vI x3)], [vI us0], (I, S)) ((.inl (some (vI (if (I 178 (x1 + x2).toNat ≠ (-1)) ∧ (((0 ≤ x3) ∧ (x3 ≤ 3)) ∧ (I 178 (x1 + x2).toNat ≠ x3)) then (1 : Int) else 0)))), (I, S)) := fun us0 e_us0 => by subst e_us0; exact (ev_ret2 rfl rfl (b_X12_canSwap_38 (ite01 _)))
  
  b_X12_canSwap_0 (ly_X12_39 hl0) v1 v2 (fun (c1 : I 178 (x1 + x2).toNat = (-1)) => 
    b_X12_canSwap_37  (K6 0 (if_neg (fun q => (fun q => q c1) q.1)).symm)) (fun (c2 : I 178 (x1 + x2).toNat ≠ (-1)) => 
    b_X12_canSwap_12  c_X12_within (
    b_X12_canSwap_18  (fun c3' => have c3 : ¬((0 ≤ x3) ∧ (x3 ≤ 3)) := b2f c3'; 
      b_X12_canSwap_37  (K6 0 (if_neg (fun q => (fun q => c3 q.1) q.2)).symm)) (fun c4' => have c4 : (0 ≤ x3) ∧ (x3 ≤ 3) := b2t c4'; 
      b_X12_canSwap_21 (ly_X12_39 hl0) v1 v2 (fun (c5 : I 178 (x1 + x2).toNat = x3) => 
        b_X12_canSwap_37  (K6 0 (if_neg (fun q => (fun q => (fun q => q c5) q.2) q.2)).symm)) (fun (c6 : I 178 (x1 + x2).toNat ≠ x3) => 
        b_X12_canSwap_33  (K6 1 (if_pos ⟨c2, ⟨c4, c6⟩⟩).symm))))))
theorem c_X12_isHere {d : Nat} {I : Nat → Nat → Int} {S : PS} {x1 : Int} (hl0 : LyX12 S) : Ca d mX12_isHere [vR (some (22, 0, 156)), vI x1] (I, S) (.inl (some (vI (if x1 < I 156 15 then (1 : Int) else 0)))) (I, S) :=
  Ca.of rfl rfl (
  have K2 : ∀ us0 : Int, us0 = (if x1 < I 156 15 then (1 : Int) else 0) → Ev d mX12_isHere (13, [some (vR (some (22, 0, 156))), some (vI x1)], [vI us0], (I, S)) ((.inl (some (vI (if x1 < I 156 15 then (1 : Int) else 0)))), (I, S)) := fun us0 e_us0 => by subst e_us0; exact (ev_ret2 rfl rfl (b_X12_isHere_13 (ite01 _)))
  
  b_X12_isHere_0  (fun (c1 : I 156 15 ≤ x1) => 
    b_X12_isHere_12  (K2 0 (if_neg (Int.not_lt.mpr c1)).symm)) (fun (c2 : x1 < I 156 15) => 
    b_X12_isHere_8  (K2 1 (if_pos c2).symm)))
theorem c_X12_planned {d : Nat} {I : Nat → Nat → Int} {S : PS} {x1 : Int} (hl0 : LyX12 S)
    (v1 : ((((0 ≤ x1) ∧ (x1 ≤ 3)))) → (I 156 47 ≠ 0) → 0 ≤ x1 ∧ x1 < (4 : Nat)) : Ca (d + 2) mX12_planned [vR (some (22, 0, 156)), vI x1] (I, S) (.inl (some (vI (if (((0 ≤ x1) ∧ (x1 ≤ 3))) then ((if I 156 47 = 0 then ((-1) : Int) else I 186 x1.toNat) : Int) else 0)))) ((if (((0 ≤ x1) ∧ (x1 ≤ 3))) then (up2 I 156 0 0) else (up2 (up2 I 156 0 0) 156 0 1)), S) :=
  Ca.of rfl rfl (
  (Classical.em ((((0 ≤ x1) ∧ (x1 ≤ 3))))).elim (fun c1 => 
    b_X12_planned_0  (c_X12_isWhat_y hl0 (by first | decide | exact (show 0 = 0 from by decide)) c1) (
    b_X12_planned_11  (fun _ => 
      have K4 : ∀ us0 : Int, us0 = (if I 156 47 = 0 then ((-1) : Int) else I 186 x1.toNat) → Ev (d + 2) mX12_planned (33, [some (vR (some (22, 0, 156))), some (vI x1)], [vI us0], ((up2 I 156 0 0), S)) ((.inl (some (vI (if (((0 ≤ x1) ∧ (x1 ≤ 3))) then ((if I 156 47 = 0 then ((-1) : Int) else I 186 x1.toNat) : Int) else 0)))), ((if (((0 ≤ x1) ∧ (x1 ≤ 3))) then (up2 I 156 0 0) else (up2 (up2 I 156 0 0) 156 0 1)), S)) := fun us0 e_us0 => by subst e_us0; exact (ev_ret2 ((if_pos c1).symm) (prEq ((if_pos c1).symm) rfl) (b_X12_planned_33 ))
      
      b_X12_planned_16  (fun (c3 : I 156 47 = 0) => 
        b_X12_planned_32  (K4 (-1) ((if_pos c3).symm))) (fun (c4 : I 156 47 ≠ 0) => 
        b_X12_planned_23 (ly_X12_54 hl0) (v1 c1 c4) (K4 (I 186 x1.toNat) ((if_neg c4).symm)))) (fun c => absurd c (by decide)))) (fun c2 => 
    b_X12_planned_0  (c_X12_isWhat_n hl0 (by first | decide | exact (show 0 = 0 from by decide)) c2) (
    b_X12_planned_11  (fun c => absurd c (by decide)) (fun _ => ev_ret2 ((if_neg (fun q => c2 q)).symm) (prEq ((if_neg (fun q => c2 q)).symm) rfl) (b_X12_planned_14 )))))
theorem c_X12_note {d : Nat} {I : Nat → Nat → Int} {S : PS} {x1 x2 : Int} (hl0 : LyX12 S)
    (v1 : ((((0 ≤ x1) ∧ (x1 < I 156 15)))) → (I 156 56 = 8) → -2147483648 ≤ I 158 2 + 1 ∧ I 158 2 + 1 ≤ 2147483647)
    (v2 : ((((0 ≤ x1) ∧ (x1 < I 156 15)))) → (I 156 56 ≠ 8) → (((-999) ≤ x2) ∧ (x2 ≤ 999)) → -2147483648 ≤ 2 * (I 156 56) ∧ 2 * (I 156 56) ≤ 2147483647)
    (v3 : ((((0 ≤ x1) ∧ (x1 < I 156 15)))) → (I 156 56 ≠ 8) → (((-999) ≤ x2) ∧ (x2 ≤ 999)) → 0 ≤ 2 * (I 156 56) ∧ 2 * (I 156 56) < (16 : Nat))
    (v4 : ((((0 ≤ x1) ∧ (x1 < I 156 15)))) → (I 156 56 ≠ 8) → (((-999) ≤ x2) ∧ (x2 ≤ 999)) → -2147483648 ≤ (2 * (I 156 56)) + 1 ∧ (2 * (I 156 56)) + 1 ≤ 2147483647)
    (v5 : ((((0 ≤ x1) ∧ (x1 < I 156 15)))) → (I 156 56 ≠ 8) → (((-999) ≤ x2) ∧ (x2 ≤ 999)) → 0 ≤ (2 * (I 156 56)) + 1 ∧ (2 * (I 156 56)) + 1 < (16 : Nat))
    (v6 : ((((0 ≤ x1) ∧ (x1 < I 156 15)))) → (I 156 56 ≠ 8) → (((-999) ≤ x2) ∧ (x2 ≤ 999)) → -2147483648 ≤ I 156 56 + 1 ∧ I 156 56 + 1 ≤ 2147483647)
    (v7 : ((((0 ≤ x1) ∧ (x1 < I 156 15)))) → (I 156 56 ≠ 8) → (¬(((-999) ≤ x2) ∧ (x2 ≤ 999))) → -2147483648 ≤ I 158 2 + 1 ∧ I 158 2 + 1 ≤ 2147483647) : Ca (d + 2) mX12_note [vR (some (22, 0, 156)), vI x1, vI x2] (I, S) (.inl (some (vI (if (((0 ≤ x1) ∧ (x1 < I 156 15))) then ((if I 156 56 = 8 then ((-1) : Int) else (if ((-999) ≤ x2) ∧ (x2 ≤ 999) then ((I 156 56 + 1) : Int) else (-1))) : Int) else 0)))) ((if (((0 ≤ x1) ∧ (x1 < I 156 15))) then (if I 156 56 = 8 then (up2 (up2 I 156 0 0) 158 (2) (I 158 2 + 1)) else (if ((-999) ≤ x2) ∧ (x2 ≤ 999) then (up2 (up2 (up2 (up2 I 156 0 0) 187 ((2 * (I 156 56)).toNat) x1) 187 (((2 * (I 156 56)) + 1).toNat) x2) 156 56 (I 156 56 + 1)) else (up2 (up2 I 156 0 0) 158 (2) (I 158 2 + 1)))) else (up2 (up2 I 156 0 0) 156 0 1)), S) :=
  Ca.of rfl rfl (
  (Classical.em ((((0 ≤ x1) ∧ (x1 < I 156 15))))).elim (fun c1 => 
    b_X12_note_0  (c_X12_isSpot_y hl0 (by first | decide | exact (show 0 = 0 from by decide)) c1) (
    b_X12_note_10  (fun _ => 
      b_X12_note_15  (fun (c3 : I 156 56 = 8) => 
        b_X12_note_37  (c_X12_refuses hl0 (by first | decide | exact (show 0 ≤ (2 : Int) ∧ (2 : Int) < (3 : Nat) from by decide)) (v1 c1 c3)) (ev_ret2 ((if_pos c3).symm.trans (if_pos c1).symm) (prEq ((if_pos c3).symm.trans (if_pos c1).symm) rfl) (b_X12_note_42 ))) (fun (c4 : I 156 56 ≠ 8) => 
        b_X12_note_24  c_X12_within (
        b_X12_note_34  (fun c5' => have c5 : ((-999) ≤ x2) ∧ (x2 ≤ 999) := b2t c5'; ev_ret2 (((if_pos c5).symm.trans (if_neg c4).symm).trans (if_pos c1).symm) (prEq (((if_pos c5).symm.trans (if_neg c4).symm).trans (if_pos c1).symm) rfl) (b_X12_note_43 (ly_X12_57 hl0) (v2 c1 c4 c5) (v3 c1 c4 c5) (v2 c1 c4 c5) (v4 c1 c4 c5) (v5 c1 c4 c5) (v6 c1 c4 c5))) (fun c6' => have c6 : ¬(((-999) ≤ x2) ∧ (x2 ≤ 999)) := b2f c6'; 
          b_X12_note_37  (c_X12_refuses hl0 (by first | decide | exact (show 0 ≤ (2 : Int) ∧ (2 : Int) < (3 : Nat) from by decide)) (v7 c1 c4 c6)) (ev_ret2 (((if_neg c6).symm.trans (if_neg c4).symm).trans (if_pos c1).symm) (prEq (((if_neg c6).symm.trans (if_neg c4).symm).trans (if_pos c1).symm) rfl) (b_X12_note_42 )))))) (fun c => absurd c (by decide)))) (fun c2 => 
    b_X12_note_0  (c_X12_isSpot_n hl0 (by first | decide | exact (show 0 = 0 from by decide)) c2) (
    b_X12_note_10  (fun c => absurd c (by decide)) (fun _ => ev_ret2 ((if_neg (fun q => c2 q)).symm) (prEq ((if_neg (fun q => c2 q)).symm) rfl) (b_X12_note_13 )))))
theorem c_X12_forget {d : Nat} {I : Nat → Nat → Int} {S : PS} (hl0 : LyX12 S) : Ca d mX12_forget [vR (some (22, 0, 156))] (I, S) (.inl none) ((up2 (up2 I 156 0 0) 156 56 0), S) :=
  Ca.of rfl rfl (ev_retV rfl (b_X12_forget_0 ))
theorem c_X9_keepAct {d : Nat} {I : Nat → Nat → Int} {S : PS} {x1 x2 x3 : Int} (hl0 : LyX9 S 126)
    (v1 : (I 126 2 < 30) → 0 ≤ I 126 2 ∧ I 126 2 < (30 : Nat))
    (v2 : (I 126 2 < 30) → -2147483648 ≤ I 126 2 + 1 ∧ I 126 2 + 1 ≤ 2147483647) : Ca (d + 1) mX9_keepAct [vR (some (19, 0, 126)), vI x1, vI x2, vI x3] (I, S) (.inl none) ((if I 126 2 < 30 then (up2 (up2 (up2 (up2 I 130 ((I 126 2).toNat) x1) 131 ((I 126 2).toNat) x2) 132 ((I 126 2).toNat) x3) 126 2 (I 126 2 + 1)) else (up2 (up2 (up2 (up2 (up2 (cpyI (cpyI (cpyI I 130 1 130 0 29) 131 1 131 0 29) 132 1 132 0 29) 126 2 29) 130 29 x1) 131 29 x2) 132 29 x3) 126 2 ((29 : Int) + 1))), S) :=
  Ca.of rfl rfl (
  b_X9_keepAct_0  (fun (c1 : I 126 2 < 30) => ev_retV (prEq ((if_pos c1).symm) rfl) (b_X9_keepAct_13 (ly_X9_3 hl0) (v1 c1) (ly_X9_4 hl0) (v1 c1) (ly_X9_5 hl0) (v1 c1) (v2 c1))) (fun (c2 : 30 ≤ I 126 2) => 
    b_X9_keepAct_9  (c_X9_dropOldestAct hl0) (ev_retV (prEq ((if_neg (Int.not_lt.mpr c2)).symm) rfl) (b_X9_keepAct_13 (ly_X9_3 hl0) (by first | decide | exact (show 0 ≤ (29 : Int) ∧ (29 : Int) < (30 : Nat) from by decide)) (ly_X9_4 hl0) (by first | decide | exact (show 0 ≤ (29 : Int) ∧ (29 : Int) < (30 : Nat) from by decide)) (ly_X9_5 hl0) (by first | decide | exact (show 0 ≤ (29 : Int) ∧ (29 : Int) < (30 : Nat) from by decide)) (by first | decide | exact (show -2147483648 ≤ (29 : Int) + 1 ∧ (29 : Int) + 1 ≤ 2147483647 from by decide))))))
end
