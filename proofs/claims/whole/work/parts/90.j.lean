noncomputable section
theorem b7_J0_length_8abf5_0 {d : Nat} {r : PO × PM} {I : Nat → Nat → Int} {S : PS} {n0 a0 p1 q1 : Nat} {I1 : Nat → Nat → Int} {S1 : PS} {z : Int} (hr1 : S.1 a0 0 = some (7, q1, p1)) (hn2 : q1 ≤ 100000) (c : Ca d mJ0_coder_7d493 [vR (some (6, n0, a0))] (I, S) (.inl (some (vI z))) (I1, S1)) (k : Ev (d + 1) mJ0_length_8abf5 (9, [some (vR (some (6, n0, a0)))], [vI z, vI (q1 : Int)], (I1, S1)) r) : Ev (d + 1) mJ0_length_8abf5 (0, [some (vR (some (6, n0, a0)))], [], (I, S)) r :=
  s_aload_n rfl rfl rfl <|
  s_getR rfl rfl rfl hr1 <|
  s_alen rfl rfl hn2 <|
  s_aload_n rfl rfl rfl <|
  s_cvI rfl rfl rfl rfl rfl c k
theorem b7_J0_length_8abf5_9 {d : Nat} {I : Nat → Nat → Int} {S : PS} {n0 a0 : Nat} {xs0 xs1 : Int} : Ev d mJ0_length_8abf5 (9, [some (vR (some (6, n0, a0)))], [vI xs1, vI xs0], (I, S)) (.inl (some (vI (p_shr xs0 xs1))), (I, S)) :=
  s_ishr rfl <|
  s_ret rfl rfl
theorem b7_J0_charAt_5068e_0 {d : Nat} {r : PO × PM} {I : Nat → Nat → Int} {S : PS} {n0 a0 : Nat} {x1 z : Int} {I1 : Nat → Nat → Int} {S1 : PS} (c : Ca d mJ0_isLatin1_aae02 [vR (some (6, n0, a0))] (I, S) (.inl (some (vI z))) (I1, S1)) (k : Ev (d + 1) mJ0_charAt_5068e (4, [some (vR (some (6, n0, a0))), some (vI x1)], [vI z], (I1, S1)) r) : Ev (d + 1) mJ0_charAt_5068e (0, [some (vR (some (6, n0, a0))), some (vI x1)], [], (I, S)) r :=
  s_aload_n rfl rfl rfl <|
  s_cvI rfl rfl rfl rfl rfl c k
theorem b7_J0_charAt_5068e_4 {d : Nat} {r : PO × PM} {I : Nat → Nat → Int} {S : PS} {n0 a0 : Nat} {x1 xs0 : Int} (kt : xs0 = 0 → Ev d mJ0_charAt_5068e (16, [some (vR (some (6, n0, a0))), some (vI x1)], [], (I, S)) r) (kf : xs0 ≠ 0 → Ev d mJ0_charAt_5068e (7, [some (vR (some (6, n0, a0))), some (vI x1)], [], (I, S)) r) : Ev d mJ0_charAt_5068e (4, [some (vR (some (6, n0, a0))), some (vI x1)], [vI xs0], (I, S)) r :=
  s_if_eq 16 rfl rfl kt kf
theorem b7_J0_charAt_5068e_7 {d : Nat} {r : PO × PM} {I : Nat → Nat → Int} {S : PS} {n0 a0 p1 q1 : Nat} {x1 z : Int} {I1 : Nat → Nat → Int} {S1 : PS} (hr1 : S.1 a0 0 = some (7, q1, p1)) (c : Ca d mJ1_charAt_3b067 [vR (some (7, q1, p1)), vI x1] (I, S) (.inl (some (vI z))) (I1, S1)) (k : Ev (d + 1) mJ0_charAt_5068e (15, [some (vR (some (6, n0, a0))), some (vI x1)], [vI z], (I1, S1)) r) : Ev (d + 1) mJ0_charAt_5068e (7, [some (vR (some (6, n0, a0))), some (vI x1)], [], (I, S)) r :=
  s_aload_n rfl rfl rfl <|
  s_getR rfl rfl rfl hr1 <|
  s_iload_n rfl rfl rfl <|
  s_csI rfl rfl rfl rfl rfl rfl c k
theorem b7_J0_charAt_5068e_15 {d : Nat} {I : Nat → Nat → Int} {S : PS} {n0 a0 : Nat} {x1 xs0 : Int} (hb1 : p_reti (p_rt mJ0_charAt_5068e) xs0 = true) : Ev d mJ0_charAt_5068e (15, [some (vR (some (6, n0, a0))), some (vI x1)], [vI xs0], (I, S)) (.inl (some (vI xs0)), (I, S)) :=
  s_ret rfl hb1
theorem b7_J1_charAt_3b067_0 {d : Nat} {r : PO × PM} {I : Nat → Nat → Int} {S : PS} {n0 a0 : Nat} {x1 : Int} {I1 : Nat → Nat → Int} {S1 : PS} (hn1 : n0 ≤ 100000) (c : Ca d mJ0_checkIndex_df160 [vI x1, vI (n0 : Int)] (I, S) (.inl none) (I1, S1)) (k : Ev (d + 1) mJ1_charAt_3b067 (6, [some (vR (some (7, n0, a0))), some (vI x1)], [], (I1, S1)) r) : Ev (d + 1) mJ1_charAt_3b067 (0, [some (vR (some (7, n0, a0))), some (vI x1)], [], (I, S)) r :=
  s_iload_n rfl rfl rfl <|
  s_aload_n rfl rfl rfl <|
  s_alen rfl rfl hn1 <|
  s_csV rfl rfl rfl rfl rfl rfl c k
theorem b7_J1_charAt_3b067_6 {d : Nat} {I : Nat → Nat → Int} {S : PS} {n0 a0 : Nat} {x1 : Int} (hi1 : 0 ≤ x1 ∧ x1 < (n0 : Nat)) (hb2 : p_reti (p_rt mJ1_charAt_3b067) (p_i2c (p_and (I a0 x1.toNat) 255)) = true) : Ev d mJ1_charAt_3b067 (6, [some (vR (some (7, n0, a0))), some (vI x1)], [], (I, S)) (.inl (some (vI (p_i2c (p_and (I a0 x1.toNat) 255)))), (I, S)) :=
  s_aload_n rfl rfl rfl <|
  s_iload_n rfl rfl rfl <|
  s_bald rfl rfl hi1 <|
  s_sipush rfl rfl <|
  s_iand rfl <|
  s_i2c rfl <|
  s_ret rfl hb2
end
