noncomputable section
theorem b_J0_length_8abf5_0 {d : Nat} {r : PO × PM} {I : Nat → Nat → Int} {S : PS} {n0 a0 p1 q1 : Nat} {I1 : Nat → Nat → Int} {S1 : PS} {z : Int} (hr1 : S.1 a0 0 = some (1, q1, p1)) (hn2 : q1 ≤ 100000) (c : Ca d mJ0_coder_7d493 [vR (some (6, n0, a0))] (I, S) (.inl (some (vI z))) (I1, S1)) (k : Ev (d + 1) mJ0_length_8abf5 (9, [some (vR (some (6, n0, a0)))], [vI z, vI (q1 : Int)], (I1, S1)) r) : Ev (d + 1) mJ0_length_8abf5 (0, [some (vR (some (6, n0, a0)))], [], (I, S)) r :=
  s_aload_n rfl rfl rfl <|
  s_getR rfl rfl rfl hr1 <|
  s_alen rfl rfl hn2 <|
  s_aload_n rfl rfl rfl <|
  s_cvI rfl rfl rfl rfl rfl c k
theorem b_J0_length_8abf5_9 {d : Nat} {I : Nat → Nat → Int} {S : PS} {n0 a0 : Nat} {xs0 xs1 : Int} : Ev d mJ0_length_8abf5 (9, [some (vR (some (6, n0, a0)))], [vI xs1, vI xs0], (I, S)) (.inl (some (vI (p_shr xs0 xs1))), (I, S)) :=
  s_ishr rfl <|
  s_ret rfl rfl
theorem b_J0_charAt_5068e_0 {d : Nat} {r : PO × PM} {I : Nat → Nat → Int} {S : PS} {n0 a0 : Nat} {x1 z : Int} {I1 : Nat → Nat → Int} {S1 : PS} (c : Ca d mJ0_isLatin1_aae02 [vR (some (6, n0, a0))] (I, S) (.inl (some (vI z))) (I1, S1)) (k : Ev (d + 1) mJ0_charAt_5068e (4, [some (vR (some (6, n0, a0))), some (vI x1)], [vI z], (I1, S1)) r) : Ev (d + 1) mJ0_charAt_5068e (0, [some (vR (some (6, n0, a0))), some (vI x1)], [], (I, S)) r :=
  s_aload_n rfl rfl rfl <|
  s_cvI rfl rfl rfl rfl rfl c k
theorem b_J0_charAt_5068e_4 {d : Nat} {r : PO × PM} {I : Nat → Nat → Int} {S : PS} {n0 a0 : Nat} {x1 xs0 : Int} (kt : xs0 = 0 → Ev d mJ0_charAt_5068e (16, [some (vR (some (6, n0, a0))), some (vI x1)], [], (I, S)) r) (kf : xs0 ≠ 0 → Ev d mJ0_charAt_5068e (7, [some (vR (some (6, n0, a0))), some (vI x1)], [], (I, S)) r) : Ev d mJ0_charAt_5068e (4, [some (vR (some (6, n0, a0))), some (vI x1)], [vI xs0], (I, S)) r :=
  s_if_eq 16 rfl rfl kt kf
theorem b_J0_charAt_5068e_7 {d : Nat} {r : PO × PM} {I : Nat → Nat → Int} {S : PS} {n0 a0 p1 q1 : Nat} {x1 z : Int} {I1 : Nat → Nat → Int} {S1 : PS} (hr1 : S.1 a0 0 = some (1, q1, p1)) (c : Ca d mJ1_charAt_3b067 [vR (some (1, q1, p1)), vI x1] (I, S) (.inl (some (vI z))) (I1, S1)) (k : Ev (d + 1) mJ0_charAt_5068e (15, [some (vR (some (6, n0, a0))), some (vI x1)], [vI z], (I1, S1)) r) : Ev (d + 1) mJ0_charAt_5068e (7, [some (vR (some (6, n0, a0))), some (vI x1)], [], (I, S)) r :=
  s_aload_n rfl rfl rfl <|
  s_getR rfl rfl rfl hr1 <|
  s_iload_n rfl rfl rfl <|
  s_csI rfl rfl rfl rfl rfl rfl c k
theorem b_J0_charAt_5068e_15 {d : Nat} {I : Nat → Nat → Int} {S : PS} {n0 a0 : Nat} {x1 xs0 : Int} (hb1 : p_reti (p_rt mJ0_charAt_5068e) xs0 = true) : Ev d mJ0_charAt_5068e (15, [some (vR (some (6, n0, a0))), some (vI x1)], [vI xs0], (I, S)) (.inl (some (vI xs0)), (I, S)) :=
  s_ret rfl hb1
theorem b_J0_coder_7d493_0 {d : Nat} {r : PO × PM} {I : Nat → Nat → Int} {S : PS} {n0 a0 : Nat} (kt : (1 : Int) = 0 → Ev d mJ0_coder_7d493 (13, [some (vR (some (6, n0, a0)))], [], (I, S)) r) (kf : (1 : Int) ≠ 0 → Ev d mJ0_coder_7d493 (6, [some (vR (some (6, n0, a0)))], [], (I, S)) r) : Ev d mJ0_coder_7d493 (0, [some (vR (some (6, n0, a0)))], [], (I, S)) r :=
  s_getstatic rfl rfl <|
  s_if_eq 13 rfl rfl kt kf
theorem b_J0_coder_7d493_6 {d : Nat} {r : PO × PM} {I : Nat → Nat → Int} {S : PS} {n0 a0 : Nat} (k : Ev d mJ0_coder_7d493 (14, [some (vR (some (6, n0, a0)))], [vI (I a0 1)], (I, S)) r) : Ev d mJ0_coder_7d493 (6, [some (vR (some (6, n0, a0)))], [], (I, S)) r :=
  s_aload_n rfl rfl rfl <|
  s_getI rfl rfl rfl <|
  s_goto 14 rfl rfl k
theorem b_J0_coder_7d493_13 {d : Nat} {r : PO × PM} {I : Nat → Nat → Int} {S : PS} {n0 a0 : Nat} (k : Ev d mJ0_coder_7d493 (14, [some (vR (some (6, n0, a0)))], [vI 1], (I, S)) r) : Ev d mJ0_coder_7d493 (13, [some (vR (some (6, n0, a0)))], [], (I, S)) r :=
  s_iconst rfl rfl <|
  k
theorem b_J0_coder_7d493_14 {d : Nat} {I : Nat → Nat → Int} {S : PS} {n0 a0 : Nat} {xs0 : Int} (hb1 : p_reti (p_rt mJ0_coder_7d493) xs0 = true) : Ev d mJ0_coder_7d493 (14, [some (vR (some (6, n0, a0)))], [vI xs0], (I, S)) (.inl (some (vI xs0)), (I, S)) :=
  s_ret rfl hb1
theorem b_J0_isLatin1_aae02_0 {d : Nat} {r : PO × PM} {I : Nat → Nat → Int} {S : PS} {n0 a0 : Nat} (kt : (1 : Int) = 0 → Ev d mJ0_isLatin1_aae02 (17, [some (vR (some (6, n0, a0)))], [], (I, S)) r) (kf : (1 : Int) ≠ 0 → Ev d mJ0_isLatin1_aae02 (6, [some (vR (some (6, n0, a0)))], [], (I, S)) r) : Ev d mJ0_isLatin1_aae02 (0, [some (vR (some (6, n0, a0)))], [], (I, S)) r :=
  s_getstatic rfl rfl <|
  s_if_eq 17 rfl rfl kt kf
theorem b_J0_isLatin1_aae02_6 {d : Nat} {r : PO × PM} {I : Nat → Nat → Int} {S : PS} {n0 a0 : Nat} (kt : I a0 1 ≠ 0 → Ev d mJ0_isLatin1_aae02 (17, [some (vR (some (6, n0, a0)))], [], (I, S)) r) (kf : I a0 1 = 0 → Ev d mJ0_isLatin1_aae02 (13, [some (vR (some (6, n0, a0)))], [], (I, S)) r) : Ev d mJ0_isLatin1_aae02 (6, [some (vR (some (6, n0, a0)))], [], (I, S)) r :=
  s_aload_n rfl rfl rfl <|
  s_getI rfl rfl rfl <|
  s_if_ne 17 rfl rfl kt kf
theorem b_J0_isLatin1_aae02_13 {d : Nat} {r : PO × PM} {I : Nat → Nat → Int} {S : PS} {n0 a0 : Nat} (k : Ev d mJ0_isLatin1_aae02 (18, [some (vR (some (6, n0, a0)))], [vI 1], (I, S)) r) : Ev d mJ0_isLatin1_aae02 (13, [some (vR (some (6, n0, a0)))], [], (I, S)) r :=
  s_iconst rfl rfl <|
  s_goto 18 rfl rfl k
theorem b_J0_isLatin1_aae02_17 {d : Nat} {r : PO × PM} {I : Nat → Nat → Int} {S : PS} {n0 a0 : Nat} (k : Ev d mJ0_isLatin1_aae02 (18, [some (vR (some (6, n0, a0)))], [vI 0], (I, S)) r) : Ev d mJ0_isLatin1_aae02 (17, [some (vR (some (6, n0, a0)))], [], (I, S)) r :=
  s_iconst rfl rfl <|
  k
theorem b_J0_isLatin1_aae02_18 {d : Nat} {I : Nat → Nat → Int} {S : PS} {n0 a0 : Nat} {xs0 : Int} (hb1 : xs0 = 0 ∨ xs0 = 1) : Ev d mJ0_isLatin1_aae02 (18, [some (vR (some (6, n0, a0)))], [vI xs0], (I, S)) (.inl (some (vI xs0)), (I, S)) :=
  s_retz rfl rfl hb1
theorem b_J0_checkIndex_df160_0 {d : Nat} {r : PO × PM} {I : Nat → Nat → Int} {S : PS} {x0 x1 z : Int} {I1 : Nat → Nat → Int} {S1 : PS} (c : Ca d mJ3_checkIndex_8e157 [vI x0, vI x1, vR (some (8, 0, 30))] (I, S) (.inl (some (vI z))) (I1, S1)) (k : Ev (d + 1) mJ0_checkIndex_df160 (8, [some (vI x0), some (vI x1)], [vI z], (I1, S1)) r) : Ev (d + 1) mJ0_checkIndex_df160 (0, [some (vI x0), some (vI x1)], [], (I, S)) r :=
  s_iload_n rfl rfl rfl <|
  s_iload_n rfl rfl rfl <|
  s_getstatic rfl rfl <|
  s_csI rfl rfl rfl rfl rfl rfl c k
theorem b_J0_checkIndex_df160_8 {d : Nat} {I : Nat → Nat → Int} {S : PS} {x0 x1 xs0 : Int} : Ev d mJ0_checkIndex_df160 (8, [some (vI x0), some (vI x1)], [vI xs0], (I, S)) (.inl none, (I, S)) :=
  s_pop rfl rfl <|
  s_vret rfl rfl
theorem b_J1_charAt_3b067_0 {d : Nat} {r : PO × PM} {I : Nat → Nat → Int} {S : PS} {n0 a0 : Nat} {x1 : Int} {I1 : Nat → Nat → Int} {S1 : PS} (hn1 : n0 ≤ 100000) (c : Ca d mJ0_checkIndex_df160 [vI x1, vI (n0 : Int)] (I, S) (.inl none) (I1, S1)) (k : Ev (d + 1) mJ1_charAt_3b067 (6, [some (vR (some (1, n0, a0))), some (vI x1)], [], (I1, S1)) r) : Ev (d + 1) mJ1_charAt_3b067 (0, [some (vR (some (1, n0, a0))), some (vI x1)], [], (I, S)) r :=
  s_iload_n rfl rfl rfl <|
  s_aload_n rfl rfl rfl <|
  s_alen rfl rfl hn1 <|
  s_csV rfl rfl rfl rfl rfl rfl c k
theorem b_J1_charAt_3b067_6 {d : Nat} {I : Nat → Nat → Int} {S : PS} {n0 a0 : Nat} {x1 : Int} (hi1 : 0 ≤ x1 ∧ x1 < (n0 : Nat)) (hb2 : p_reti (p_rt mJ1_charAt_3b067) (p_i2c (p_and (I a0 x1.toNat) 255)) = true) : Ev d mJ1_charAt_3b067 (6, [some (vR (some (1, n0, a0))), some (vI x1)], [], (I, S)) (.inl (some (vI (p_i2c (p_and (I a0 x1.toNat) 255)))), (I, S)) :=
  s_aload_n rfl rfl rfl <|
  s_iload_n rfl rfl rfl <|
  s_bald rfl rfl hi1 <|
  s_sipush rfl rfl <|
  s_iand rfl <|
  s_i2c rfl <|
  s_ret rfl hb2
theorem b_J6_bitCount_0f7a4_0 {d : Nat} {I : Nat → Nat → Int} {S : PS} {x0 : Int} : Ev d mJ6_bitCount_0f7a4 (0, [some (vI x0)], [], (I, S)) (.inl (some (vI (p_and (p_add (p_add (p_and (p_add (p_add (p_and (p_sub x0 (p_and (p_ushr x0 1) 1431655765)) 858993459) (p_and (p_ushr (p_sub x0 (p_and (p_ushr x0 1) 1431655765)) 2) 858993459)) (p_ushr (p_add (p_and (p_sub x0 (p_and (p_ushr x0 1) 1431655765)) 858993459) (p_and (p_ushr (p_sub x0 (p_and (p_ushr x0 1) 1431655765)) 2) 858993459)) 4)) 252645135) (p_ushr (p_and (p_add (p_add (p_and (p_sub x0 (p_and (p_ushr x0 1) 1431655765)) 858993459) (p_and (p_ushr (p_sub x0 (p_and (p_ushr x0 1) 1431655765)) 2) 858993459)) (p_ushr (p_add (p_and (p_sub x0 (p_and (p_ushr x0 1) 1431655765)) 858993459) (p_and (p_ushr (p_sub x0 (p_and (p_ushr x0 1) 1431655765)) 2) 858993459)) 4)) 252645135) 8)) (p_ushr (p_add (p_and (p_add (p_add (p_and (p_sub x0 (p_and (p_ushr x0 1) 1431655765)) 858993459) (p_and (p_ushr (p_sub x0 (p_and (p_ushr x0 1) 1431655765)) 2) 858993459)) (p_ushr (p_add (p_and (p_sub x0 (p_and (p_ushr x0 1) 1431655765)) 858993459) (p_and (p_ushr (p_sub x0 (p_and (p_ushr x0 1) 1431655765)) 2) 858993459)) 4)) 252645135) (p_ushr (p_and (p_add (p_add (p_and (p_sub x0 (p_and (p_ushr x0 1) 1431655765)) 858993459) (p_and (p_ushr (p_sub x0 (p_and (p_ushr x0 1) 1431655765)) 2) 858993459)) (p_ushr (p_add (p_and (p_sub x0 (p_and (p_ushr x0 1) 1431655765)) 858993459) (p_and (p_ushr (p_sub x0 (p_and (p_ushr x0 1) 1431655765)) 2) 858993459)) 4)) 252645135) 8)) 16)) 63))), (I, S)) :=
  s_iload_n rfl rfl rfl <|
  s_iload_n rfl rfl rfl <|
  s_iconst rfl rfl <|
  s_iushr rfl <|
  s_ldc_w rfl rfl <|
  s_iand rfl <|
  s_isub rfl <|
  s_istore_n [some (vI (p_sub x0 (p_and (p_ushr x0 1) 1431655765)))] rfl rfl <|
  s_iload_n rfl rfl rfl <|
  s_ldc_w rfl rfl <|
  s_iand rfl <|
  s_iload_n rfl rfl rfl <|
  s_iconst rfl rfl <|
  s_iushr rfl <|
  s_ldc_w rfl rfl <|
  s_iand rfl <|
  s_iadd rfl <|
  s_istore_n [some (vI (p_add (p_and (p_sub x0 (p_and (p_ushr x0 1) 1431655765)) 858993459) (p_and (p_ushr (p_sub x0 (p_and (p_ushr x0 1) 1431655765)) 2) 858993459)))] rfl rfl <|
  s_iload_n rfl rfl rfl <|
  s_iload_n rfl rfl rfl <|
  s_iconst rfl rfl <|
  s_iushr rfl <|
  s_iadd rfl <|
  s_ldc_w rfl rfl <|
  s_iand rfl <|
  s_istore_n [some (vI (p_and (p_add (p_add (p_and (p_sub x0 (p_and (p_ushr x0 1) 1431655765)) 858993459) (p_and (p_ushr (p_sub x0 (p_and (p_ushr x0 1) 1431655765)) 2) 858993459)) (p_ushr (p_add (p_and (p_sub x0 (p_and (p_ushr x0 1) 1431655765)) 858993459) (p_and (p_ushr (p_sub x0 (p_and (p_ushr x0 1) 1431655765)) 2) 858993459)) 4)) 252645135))] rfl rfl <|
  s_iload_n rfl rfl rfl <|
  s_iload_n rfl rfl rfl <|
  s_bipush rfl rfl <|
  s_iushr rfl <|
  s_iadd rfl <|
  s_istore_n [some (vI (p_add (p_and (p_add (p_add (p_and (p_sub x0 (p_and (p_ushr x0 1) 1431655765)) 858993459) (p_and (p_ushr (p_sub x0 (p_and (p_ushr x0 1) 1431655765)) 2) 858993459)) (p_ushr (p_add (p_and (p_sub x0 (p_and (p_ushr x0 1) 1431655765)) 858993459) (p_and (p_ushr (p_sub x0 (p_and (p_ushr x0 1) 1431655765)) 2) 858993459)) 4)) 252645135) (p_ushr (p_and (p_add (p_add (p_and (p_sub x0 (p_and (p_ushr x0 1) 1431655765)) 858993459) (p_and (p_ushr (p_sub x0 (p_and (p_ushr x0 1) 1431655765)) 2) 858993459)) (p_ushr (p_add (p_and (p_sub x0 (p_and (p_ushr x0 1) 1431655765)) 858993459) (p_and (p_ushr (p_sub x0 (p_and (p_ushr x0 1) 1431655765)) 2) 858993459)) 4)) 252645135) 8)))] rfl rfl <|
  s_iload_n rfl rfl rfl <|
  s_iload_n rfl rfl rfl <|
  s_bipush rfl rfl <|
  s_iushr rfl <|
  s_iadd rfl <|
  s_istore_n [some (vI (p_add (p_add (p_and (p_add (p_add (p_and (p_sub x0 (p_and (p_ushr x0 1) 1431655765)) 858993459) (p_and (p_ushr (p_sub x0 (p_and (p_ushr x0 1) 1431655765)) 2) 858993459)) (p_ushr (p_add (p_and (p_sub x0 (p_and (p_ushr x0 1) 1431655765)) 858993459) (p_and (p_ushr (p_sub x0 (p_and (p_ushr x0 1) 1431655765)) 2) 858993459)) 4)) 252645135) (p_ushr (p_and (p_add (p_add (p_and (p_sub x0 (p_and (p_ushr x0 1) 1431655765)) 858993459) (p_and (p_ushr (p_sub x0 (p_and (p_ushr x0 1) 1431655765)) 2) 858993459)) (p_ushr (p_add (p_and (p_sub x0 (p_and (p_ushr x0 1) 1431655765)) 858993459) (p_and (p_ushr (p_sub x0 (p_and (p_ushr x0 1) 1431655765)) 2) 858993459)) 4)) 252645135) 8)) (p_ushr (p_add (p_and (p_add (p_add (p_and (p_sub x0 (p_and (p_ushr x0 1) 1431655765)) 858993459) (p_and (p_ushr (p_sub x0 (p_and (p_ushr x0 1) 1431655765)) 2) 858993459)) (p_ushr (p_add (p_and (p_sub x0 (p_and (p_ushr x0 1) 1431655765)) 858993459) (p_and (p_ushr (p_sub x0 (p_and (p_ushr x0 1) 1431655765)) 2) 858993459)) 4)) 252645135) (p_ushr (p_and (p_add (p_add (p_and (p_sub x0 (p_and (p_ushr x0 1) 1431655765)) 858993459) (p_and (p_ushr (p_sub x0 (p_and (p_ushr x0 1) 1431655765)) 2) 858993459)) (p_ushr (p_add (p_and (p_sub x0 (p_and (p_ushr x0 1) 1431655765)) 858993459) (p_and (p_ushr (p_sub x0 (p_and (p_ushr x0 1) 1431655765)) 2) 858993459)) 4)) 252645135) 8)) 16)))] rfl rfl <|
  s_iload_n rfl rfl rfl <|
  s_bipush rfl rfl <|
  s_iand rfl <|
  s_ret rfl rfl
theorem b_J7_fill_53178_0 {d : Nat} {r : PO × PM} {I : Nat → Nat → Int} {S : PS} {n0 a0 : Nat} {x1 : Int} (hn1 : n0 ≤ 100000) (k : Ev d mJ7_fill_53178 (5, [some (vR (some (0, n0, a0))), some (vI x1), some (vI 0), some (vI (n0 : Int))], [], (I, S)) r) : Ev d mJ7_fill_53178 (0, [some (vR (some (0, n0, a0))), some (vI x1), none, none], [], (I, S)) r :=
  s_iconst rfl rfl <|
  s_istore_n [some (vR (some (0, n0, a0))), some (vI x1), some (vI 0), none] rfl rfl <|
  s_aload_n rfl rfl rfl <|
  s_alen rfl rfl hn1 <|
  s_istore_n [some (vR (some (0, n0, a0))), some (vI x1), some (vI 0), some (vI (n0 : Int))] rfl rfl <|
  k
theorem b_J7_fill_53178_5 {d : Nat} {r : PO × PM} {I : Nat → Nat → Int} {S : PS} {n0 a0 : Nat} {x1 x2 x3 : Int} (kt : x3 ≤ x2 → Ev d mJ7_fill_53178 (20, [some (vR (some (0, n0, a0))), some (vI x1), some (vI x2), some (vI x3)], [], (I, S)) r) (kf : x2 < x3 → Ev d mJ7_fill_53178 (10, [some (vR (some (0, n0, a0))), some (vI x1), some (vI x2), some (vI x3)], [], (I, S)) r) : Ev d mJ7_fill_53178 (5, [some (vR (some (0, n0, a0))), some (vI x1), some (vI x2), some (vI x3)], [], (I, S)) r :=
  s_iload_n rfl rfl rfl <|
  s_iload_n rfl rfl rfl <|
  s_icmp_ge 20 rfl rfl kt kf
theorem b_J7_fill_53178_10 {d : Nat} {r : PO × PM} {I : Nat → Nat → Int} {S : PS} {n0 a0 : Nat} {x1 x2 x3 : Int} (hi1 : 0 ≤ x2 ∧ x2 < (n0 : Nat)) (ho2 : -2147483648 ≤ x2 + 1 ∧ x2 + 1 ≤ 2147483647) (k : Ev d mJ7_fill_53178 (5, [some (vR (some (0, n0, a0))), some (vI x1), some (vI (x2 + 1)), some (vI x3)], [], ((up2 I a0 (x2.toNat) x1), S)) r) : Ev d mJ7_fill_53178 (10, [some (vR (some (0, n0, a0))), some (vI x1), some (vI x2), some (vI x3)], [], (I, S)) r :=
  s_aload_n rfl rfl rfl <|
  s_iload_n rfl rfl rfl <|
  s_iload_n rfl rfl rfl <|
  s_iast rfl hi1 <|
  s_iincp [some (vR (some (0, n0, a0))), some (vI x1), some (vI (x2 + 1)), some (vI x3)] rfl rfl ho2 rfl <|
  s_goto 5 rfl rfl k
theorem b_J7_fill_53178_20 {d : Nat} {I : Nat → Nat → Int} {S : PS} {n0 a0 : Nat} {x1 x2 x3 : Int} : Ev d mJ7_fill_53178 (20, [some (vR (some (0, n0, a0))), some (vI x1), some (vI x2), some (vI x3)], [], (I, S)) (.inl none, (I, S)) :=
  s_vret rfl rfl
theorem b_J3_checkIndex_8e157_0 {d : Nat} {r : PO × PM} {I : Nat → Nat → Int} {S : PS} {x0 x1 : Int} {n2 a2 : Nat} (kt : x0 < 0 → Ev d mJ3_checkIndex_8e157 (9, [some (vI x0), some (vI x1), some (vR (some (8, n2, a2)))], [], (I, S)) r) (kf : 0 ≤ x0 → Ev d mJ3_checkIndex_8e157 (4, [some (vI x0), some (vI x1), some (vR (some (8, n2, a2)))], [], (I, S)) r) : Ev d mJ3_checkIndex_8e157 (0, [some (vI x0), some (vI x1), some (vR (some (8, n2, a2)))], [], (I, S)) r :=
  s_iload_n rfl rfl rfl <|
  s_if_lt 9 rfl rfl kt kf
theorem b_J3_checkIndex_8e157_4 {d : Nat} {r : PO × PM} {I : Nat → Nat → Int} {S : PS} {x0 x1 : Int} {n2 a2 : Nat} (kt : x0 < x1 → Ev d mJ3_checkIndex_8e157 (16, [some (vI x0), some (vI x1), some (vR (some (8, n2, a2)))], [], (I, S)) r) (kf : x1 ≤ x0 → Ev d mJ3_checkIndex_8e157 (9, [some (vI x0), some (vI x1), some (vR (some (8, n2, a2)))], [], (I, S)) r) : Ev d mJ3_checkIndex_8e157 (4, [some (vI x0), some (vI x1), some (vR (some (8, n2, a2)))], [], (I, S)) r :=
  s_iload_n rfl rfl rfl <|
  s_iload_n rfl rfl rfl <|
  s_icmp_lt 16 rfl rfl kt kf
theorem b_J3_checkIndex_8e157_16 {d : Nat} {I : Nat → Nat → Int} {S : PS} {x0 x1 : Int} {n2 a2 : Nat} : Ev d mJ3_checkIndex_8e157 (16, [some (vI x0), some (vI x1), some (vR (some (8, n2, a2)))], [], (I, S)) (.inl (some (vI x0)), (I, S)) :=
  s_iload_n rfl rfl rfl <|
  s_ret rfl rfl
end
