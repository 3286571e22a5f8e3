noncomputable section
theorem b_X12_thrown_0 {d : Nat} {I : Nat → Nat → Int} {S : PS} {a0 : Nat} : Ev d mX12_thrown (0, [some (vR (some (22, 0, a0)))], [], (I, S)) (.inl (some (vI (I a0 0))), (I, S)) :=
  s_aload_n rfl rfl rfl <|
  s_getI rfl rfl rfl <|
  s_ret rfl rfl
theorem b_X12_right_0 {d : Nat} {r : PO × PM} {I : Nat → Nat → Int} {S : PS} {a0 : Nat} {x1 x2 : Int} (kt : I a0 0 ≠ 0 → Ev d mX12_right (16, [some (vR (some (22, 0, a0))), some (vI x1), some (vI x2)], [], (I, S)) r) (kf : I a0 0 = 0 → Ev d mX12_right (7, [some (vR (some (22, 0, a0))), some (vI x1), some (vI x2)], [], (I, S)) r) : Ev d mX12_right (0, [some (vR (some (22, 0, a0))), some (vI x1), some (vI x2)], [], (I, S)) r :=
  s_aload_n rfl rfl rfl <|
  s_getI rfl rfl rfl <|
  s_if_ne 16 rfl rfl kt kf
theorem b_X12_right_7 {d : Nat} {r : PO × PM} {I : Nat → Nat → Int} {S : PS} {a0 : Nat} {x1 x2 : Int} (kt : x1 ≠ 0 → Ev d mX12_right (16, [some (vR (some (22, 0, a0))), some (vI x1), some (vI x2)], [], (I, S)) r) (kf : x1 = 0 → Ev d mX12_right (11, [some (vR (some (22, 0, a0))), some (vI x1), some (vI x2)], [], (I, S)) r) : Ev d mX12_right (7, [some (vR (some (22, 0, a0))), some (vI x1), some (vI x2)], [], (I, S)) r :=
  s_iload_n rfl rfl rfl <|
  s_if_ne 16 rfl rfl kt kf
theorem b_X12_right_11 {d : Nat} {r : PO × PM} {I : Nat → Nat → Int} {S : PS} {a0 : Nat} {x1 x2 : Int} (k : Ev d mX12_right (16, [some (vR (some (22, 0, a0))), some (vI x1), some (vI x2)], [], ((up2 I a0 0 x2), S)) r) : Ev d mX12_right (11, [some (vR (some (22, 0, a0))), some (vI x1), some (vI x2)], [], (I, S)) r :=
  s_aload_n rfl rfl rfl <|
  s_iload_n rfl rfl rfl <|
  s_putI rfl rfl rfl <|
  k
theorem b_X12_right_16 {d : Nat} {r : PO × PM} {I : Nat → Nat → Int} {S : PS} {a0 : Nat} {x1 x2 : Int} (kt : I a0 0 ≠ 0 → Ev d mX12_right (27, [some (vR (some (22, 0, a0))), some (vI x1), some (vI x2)], [], (I, S)) r) (kf : I a0 0 = 0 → Ev d mX12_right (23, [some (vR (some (22, 0, a0))), some (vI x1), some (vI x2)], [], (I, S)) r) : Ev d mX12_right (16, [some (vR (some (22, 0, a0))), some (vI x1), some (vI x2)], [], (I, S)) r :=
  s_aload_n rfl rfl rfl <|
  s_getI rfl rfl rfl <|
  s_if_ne 27 rfl rfl kt kf
theorem b_X12_right_23 {d : Nat} {r : PO × PM} {I : Nat → Nat → Int} {S : PS} {a0 : Nat} {x1 x2 : Int} (k : Ev d mX12_right (28, [some (vR (some (22, 0, a0))), some (vI x1), some (vI x2)], [vI 1], (I, S)) r) : Ev d mX12_right (23, [some (vR (some (22, 0, a0))), some (vI x1), some (vI x2)], [], (I, S)) r :=
  s_iconst rfl rfl <|
  s_goto 28 rfl rfl k
theorem b_X12_right_27 {d : Nat} {r : PO × PM} {I : Nat → Nat → Int} {S : PS} {a0 : Nat} {x1 x2 : Int} (k : Ev d mX12_right (28, [some (vR (some (22, 0, a0))), some (vI x1), some (vI x2)], [vI 0], (I, S)) r) : Ev d mX12_right (27, [some (vR (some (22, 0, a0))), some (vI x1), some (vI x2)], [], (I, S)) r :=
  s_iconst rfl rfl <|
  k
theorem b_X12_right_28 {d : Nat} {I : Nat → Nat → Int} {S : PS} {a0 : Nat} {x1 x2 xs0 : Int} (hb1 : xs0 = 0 ∨ xs0 = 1) : Ev d mX12_right (28, [some (vR (some (22, 0, a0))), some (vI x1), some (vI x2)], [vI xs0], (I, S)) (.inl (some (vI xs0)), (I, S)) :=
  s_retz rfl rfl hb1
theorem b_X12_within_0 {d : Nat} {r : PO × PM} {I : Nat → Nat → Int} {S : PS} {x0 x1 x2 : Int} (kt : x0 < x1 → Ev d mX12_within (14, [some (vI x0), some (vI x1), some (vI x2)], [], (I, S)) r) (kf : x1 ≤ x0 → Ev d mX12_within (5, [some (vI x0), some (vI x1), some (vI x2)], [], (I, S)) r) : Ev d mX12_within (0, [some (vI x0), some (vI x1), some (vI x2)], [], (I, S)) r :=
  s_iload_n rfl rfl rfl <|
  s_iload_n rfl rfl rfl <|
  s_icmp_lt 14 rfl rfl kt kf
theorem b_X12_within_5 {d : Nat} {r : PO × PM} {I : Nat → Nat → Int} {S : PS} {x0 x1 x2 : Int} (kt : x2 < x0 → Ev d mX12_within (14, [some (vI x0), some (vI x1), some (vI x2)], [], (I, S)) r) (kf : x0 ≤ x2 → Ev d mX12_within (10, [some (vI x0), some (vI x1), some (vI x2)], [], (I, S)) r) : Ev d mX12_within (5, [some (vI x0), some (vI x1), some (vI x2)], [], (I, S)) r :=
  s_iload_n rfl rfl rfl <|
  s_iload_n rfl rfl rfl <|
  s_icmp_gt 14 rfl rfl kt kf
theorem b_X12_within_10 {d : Nat} {r : PO × PM} {I : Nat → Nat → Int} {S : PS} {x0 x1 x2 : Int} (k : Ev d mX12_within (15, [some (vI x0), some (vI x1), some (vI x2)], [vI 1], (I, S)) r) : Ev d mX12_within (10, [some (vI x0), some (vI x1), some (vI x2)], [], (I, S)) r :=
  s_iconst rfl rfl <|
  s_goto 15 rfl rfl k
theorem b_X12_within_14 {d : Nat} {r : PO × PM} {I : Nat → Nat → Int} {S : PS} {x0 x1 x2 : Int} (k : Ev d mX12_within (15, [some (vI x0), some (vI x1), some (vI x2)], [vI 0], (I, S)) r) : Ev d mX12_within (14, [some (vI x0), some (vI x1), some (vI x2)], [], (I, S)) r :=
  s_iconst rfl rfl <|
  k
theorem b_X12_within_15 {d : Nat} {I : Nat → Nat → Int} {S : PS} {x0 x1 x2 xs0 : Int} (hb1 : xs0 = 0 ∨ xs0 = 1) : Ev d mX12_within (15, [some (vI x0), some (vI x1), some (vI x2)], [vI xs0], (I, S)) (.inl (some (vI xs0)), (I, S)) :=
  s_retz rfl rfl hb1
theorem b_X12_copies_0 {d : Nat} {r : PO × PM} {I : Nat → Nat → Int} {S : PS} {a0 n1 a1 n2 a2 : Nat} (k : Ev d mX12_copies (2, [some (vR (some (22, 0, a0))), some (vR (some (0, n1, a1))), some (vR (some (0, n2, a2))), some (vI 0)], [], (I, S)) r) : Ev d mX12_copies (0, [some (vR (some (22, 0, a0))), some (vR (some (0, n1, a1))), some (vR (some (0, n2, a2))), none], [], (I, S)) r :=
  s_iconst rfl rfl <|
  s_istore_n [some (vR (some (22, 0, a0))), some (vR (some (0, n1, a1))), some (vR (some (0, n2, a2))), some (vI 0)] rfl rfl <|
  k
theorem b_X12_copies_2 {d : Nat} {r : PO × PM} {I : Nat → Nat → Int} {S : PS} {a0 n1 a1 n2 a2 : Nat} {x3 : Int} (hn1 : n1 ≤ 100000) (kt : (n1 : Int) ≤ x3 → Ev d mX12_copies (20, [some (vR (some (22, 0, a0))), some (vR (some (0, n1, a1))), some (vR (some (0, n2, a2))), some (vI x3)], [], (I, S)) r) (kf : x3 < (n1 : Int) → Ev d mX12_copies (8, [some (vR (some (22, 0, a0))), some (vR (some (0, n1, a1))), some (vR (some (0, n2, a2))), some (vI x3)], [], (I, S)) r) : Ev d mX12_copies (2, [some (vR (some (22, 0, a0))), some (vR (some (0, n1, a1))), some (vR (some (0, n2, a2))), some (vI x3)], [], (I, S)) r :=
  s_iload_n rfl rfl rfl <|
  s_aload_n rfl rfl rfl <|
  s_alen rfl rfl hn1 <|
  s_icmp_ge 20 rfl rfl kt kf
theorem b_X12_copies_8 {d : Nat} {r : PO × PM} {I : Nat → Nat → Int} {S : PS} {a0 n1 a1 n2 a2 : Nat} {x3 : Int} (hi1 : 0 ≤ x3 ∧ x3 < (n1 : Nat)) (hi2 : 0 ≤ x3 ∧ x3 < (n2 : Nat)) (ho3 : -2147483648 ≤ x3 + 1 ∧ x3 + 1 ≤ 2147483647) (k : Ev d mX12_copies (2, [some (vR (some (22, 0, a0))), some (vR (some (0, n1, a1))), some (vR (some (0, n2, a2))), some (vI (x3 + 1))], [], ((up2 I a2 (x3.toNat) (I a1 x3.toNat)), S)) r) : Ev d mX12_copies (8, [some (vR (some (22, 0, a0))), some (vR (some (0, n1, a1))), some (vR (some (0, n2, a2))), some (vI x3)], [], (I, S)) r :=
  s_aload_n rfl rfl rfl <|
  s_iload_n rfl rfl rfl <|
  s_aload_n rfl rfl rfl <|
  s_iload_n rfl rfl rfl <|
  s_iald rfl rfl hi1 <|
  s_iast rfl hi2 <|
  s_iincp [some (vR (some (22, 0, a0))), some (vR (some (0, n1, a1))), some (vR (some (0, n2, a2))), some (vI (x3 + 1))] rfl rfl ho3 rfl <|
  s_goto 2 rfl rfl k
theorem b_X12_copies_20 {d : Nat} {I : Nat → Nat → Int} {S : PS} {a0 n1 a1 n2 a2 : Nat} {x3 : Int} : Ev d mX12_copies (20, [some (vR (some (22, 0, a0))), some (vR (some (0, n1, a1))), some (vR (some (0, n2, a2))), some (vI x3)], [], (I, S)) (.inl none, (I, S)) :=
  s_vret rfl rfl
theorem b_X12_bits_0 {d : Nat} {r : PO × PM} {I : Nat → Nat → Int} {S : PS} {x0 : Int} (k : Ev d mX12_bits (4, [some (vI x0), some (vI 0), some (vI 0)], [], (I, S)) r) : Ev d mX12_bits (0, [some (vI x0), none, none], [], (I, S)) r :=
  s_iconst rfl rfl <|
  s_istore_n [some (vI x0), some (vI 0), none] rfl rfl <|
  s_iconst rfl rfl <|
  s_istore_n [some (vI x0), some (vI 0), some (vI 0)] rfl rfl <|
  k
theorem b_X12_bits_4 {d : Nat} {r : PO × PM} {I : Nat → Nat → Int} {S : PS} {x0 x1 x2 : Int} (kt : 15 ≤ x2 → Ev d mX12_bits (24, [some (vI x0), some (vI x1), some (vI x2)], [], (I, S)) r) (kf : x2 < 15 → Ev d mX12_bits (10, [some (vI x0), some (vI x1), some (vI x2)], [], (I, S)) r) : Ev d mX12_bits (4, [some (vI x0), some (vI x1), some (vI x2)], [], (I, S)) r :=
  s_iload_n rfl rfl rfl <|
  s_bipush rfl rfl <|
  s_icmp_ge 24 rfl rfl kt kf
theorem b_X12_bits_10 {d : Nat} {r : PO × PM} {I : Nat → Nat → Int} {S : PS} {x0 x1 x2 : Int} (ho1 : -2147483648 ≤ x1 + (p_and (p_shr x0 x2) 1) ∧ x1 + (p_and (p_shr x0 x2) 1) ≤ 2147483647) (ho2 : -2147483648 ≤ x2 + 1 ∧ x2 + 1 ≤ 2147483647) (k : Ev d mX12_bits (4, [some (vI x0), some (vI (x1 + (p_and (p_shr x0 x2) 1))), some (vI (x2 + 1))], [], (I, S)) r) : Ev d mX12_bits (10, [some (vI x0), some (vI x1), some (vI x2)], [], (I, S)) r :=
  s_iload_n rfl rfl rfl <|
  s_iload_n rfl rfl rfl <|
  s_iload_n rfl rfl rfl <|
  s_ishr rfl <|
  s_iconst rfl rfl <|
  s_iand rfl <|
  s_iaddp rfl ho1 <|
  s_istore_n [some (vI x0), some (vI (x1 + (p_and (p_shr x0 x2) 1))), some (vI x2)] rfl rfl <|
  s_iincp [some (vI x0), some (vI (x1 + (p_and (p_shr x0 x2) 1))), some (vI (x2 + 1))] rfl rfl ho2 rfl <|
  s_goto 4 rfl rfl k
theorem b_X12_bits_24 {d : Nat} {I : Nat → Nat → Int} {S : PS} {x0 x1 x2 : Int} : Ev d mX12_bits (24, [some (vI x0), some (vI x1), some (vI x2)], [], (I, S)) (.inl (some (vI x1)), (I, S)) :=
  s_iload_n rfl rfl rfl <|
  s_ret rfl rfl
theorem b_X12_feed_0 {d : Nat} {r : PO × PM} {I : Nat → Nat → Int} {S : PS} {a0 : Nat} {x1 x2 x3 x4 x5 : Int} (ho1 : -2147483648 ≤ ((up2 I a0 0 0) a0 2) + 20 ∧ ((up2 I a0 0 0) a0 2) + 20 ≤ 2147483647) (kt : ((up2 I a0 0 0) a0 2) + 20 ≤ 700 → Ev d mX12_feed (20, [some (vR (some (22, 0, a0))), some (vI x1), some (vI x2), some (vI x3), some (vI x4), some (vI x5)], [], ((up2 I a0 0 0), S)) r) (kf : 700 < ((up2 I a0 0 0) a0 2) + 20 → Ev d mX12_feed (18, [some (vR (some (22, 0, a0))), some (vI x1), some (vI x2), some (vI x3), some (vI x4), some (vI x5)], [], ((up2 I a0 0 0), S)) r) : Ev d mX12_feed (0, [some (vR (some (22, 0, a0))), some (vI x1), some (vI x2), some (vI x3), some (vI x4), some (vI x5)], [], (I, S)) r :=
  s_aload_n rfl rfl rfl <|
  s_iconst rfl rfl <|
  s_putI rfl rfl rfl <|
  s_aload_n rfl rfl rfl <|
  s_getI rfl rfl rfl <|
  s_bipush rfl rfl <|
  s_iaddp rfl ho1 <|
  s_sipush rfl rfl <|
  s_icmp_le 20 rfl rfl kt kf
theorem b_X12_feed_18 {d : Nat} {I : Nat → Nat → Int} {S : PS} {a0 : Nat} {x1 x2 x3 x4 x5 : Int} : Ev d mX12_feed (18, [some (vR (some (22, 0, a0))), some (vI x1), some (vI x2), some (vI x3), some (vI x4), some (vI x5)], [], (I, S)) (.inl (some (vI (-1))), (I, S)) :=
  s_iconst rfl rfl <|
  s_ret rfl rfl
theorem b_X12_feed_20 {d : Nat} {r : PO × PM} {I : Nat → Nat → Int} {S : PS} {a0 : Nat} {x1 x2 x3 x4 x5 : Int} {I1 : Nat → Nat → Int} {S1 : PS} (c : Ca d mX12_lays [vR (some (22, 0, a0)), vI x1] (I, S) (.inl none) (I1, S1)) (k : Ev (d + 1) mX12_feed (25, [some (vR (some (22, 0, a0))), some (vI x1), some (vI x2), some (vI x3), some (vI x4), some (vI x5)], [], (I1, S1)) r) : Ev (d + 1) mX12_feed (20, [some (vR (some (22, 0, a0))), some (vI x1), some (vI x2), some (vI x3), some (vI x4), some (vI x5)], [], (I, S)) r :=
  s_aload_n rfl rfl rfl <|
  s_iload_n rfl rfl rfl <|
  s_cvV rfl rfl rfl rfl rfl c k
theorem b_X12_feed_25 {d : Nat} {r : PO × PM} {I : Nat → Nat → Int} {S : PS} {a0 : Nat} {x1 x2 x3 x4 x5 : Int} {I1 : Nat → Nat → Int} {S1 : PS} (c : Ca d mX12_lays [vR (some (22, 0, a0)), vI x2] (I, S) (.inl none) (I1, S1)) (k : Ev (d + 1) mX12_feed (30, [some (vR (some (22, 0, a0))), some (vI x1), some (vI x2), some (vI x3), some (vI x4), some (vI x5)], [], (I1, S1)) r) : Ev (d + 1) mX12_feed (25, [some (vR (some (22, 0, a0))), some (vI x1), some (vI x2), some (vI x3), some (vI x4), some (vI x5)], [], (I, S)) r :=
  s_aload_n rfl rfl rfl <|
  s_iload_n rfl rfl rfl <|
  s_cvV rfl rfl rfl rfl rfl c k
theorem b_X12_feed_30 {d : Nat} {r : PO × PM} {I : Nat → Nat → Int} {S : PS} {a0 : Nat} {x1 x2 x3 x4 x5 : Int} {I1 : Nat → Nat → Int} {S1 : PS} (c : Ca d mX12_lays [vR (some (22, 0, a0)), vI x3] (I, S) (.inl none) (I1, S1)) (k : Ev (d + 1) mX12_feed (35, [some (vR (some (22, 0, a0))), some (vI x1), some (vI x2), some (vI x3), some (vI x4), some (vI x5)], [], (I1, S1)) r) : Ev (d + 1) mX12_feed (30, [some (vR (some (22, 0, a0))), some (vI x1), some (vI x2), some (vI x3), some (vI x4), some (vI x5)], [], (I, S)) r :=
  s_aload_n rfl rfl rfl <|
  s_iload_n rfl rfl rfl <|
  s_cvV rfl rfl rfl rfl rfl c k
theorem b_X12_feed_35 {d : Nat} {r : PO × PM} {I : Nat → Nat → Int} {S : PS} {a0 : Nat} {x1 x2 x3 x4 x5 : Int} {I1 : Nat → Nat → Int} {S1 : PS} (c : Ca d mX12_lays [vR (some (22, 0, a0)), vI x4] (I, S) (.inl none) (I1, S1)) (k : Ev (d + 1) mX12_feed (41, [some (vR (some (22, 0, a0))), some (vI x1), some (vI x2), some (vI x3), some (vI x4), some (vI x5)], [], (I1, S1)) r) : Ev (d + 1) mX12_feed (35, [some (vR (some (22, 0, a0))), some (vI x1), some (vI x2), some (vI x3), some (vI x4), some (vI x5)], [], (I, S)) r :=
  s_aload_n rfl rfl rfl <|
  s_iload rfl rfl rfl <|
  s_cvV rfl rfl rfl rfl rfl c k
theorem b_X12_feed_41 {d : Nat} {r : PO × PM} {I : Nat → Nat → Int} {S : PS} {a0 : Nat} {x1 x2 x3 x4 x5 : Int} {I1 : Nat → Nat → Int} {S1 : PS} (c : Ca d mX12_lays [vR (some (22, 0, a0)), vI x5] (I, S) (.inl none) (I1, S1)) (k : Ev (d + 1) mX12_feed (47, [some (vR (some (22, 0, a0))), some (vI x1), some (vI x2), some (vI x3), some (vI x4), some (vI x5)], [], (I1, S1)) r) : Ev (d + 1) mX12_feed (41, [some (vR (some (22, 0, a0))), some (vI x1), some (vI x2), some (vI x3), some (vI x4), some (vI x5)], [], (I, S)) r :=
  s_aload_n rfl rfl rfl <|
  s_iload rfl rfl rfl <|
  s_cvV rfl rfl rfl rfl rfl c k
theorem b_X12_feed_47 {d : Nat} {I : Nat → Nat → Int} {S : PS} {a0 : Nat} {x1 x2 x3 x4 x5 : Int} : Ev d mX12_feed (47, [some (vR (some (22, 0, a0))), some (vI x1), some (vI x2), some (vI x3), some (vI x4), some (vI x5)], [], (I, S)) (.inl (some (vI (I a0 2))), (I, S)) :=
  s_aload_n rfl rfl rfl <|
  s_getI rfl rfl rfl <|
  s_ret rfl rfl
theorem b_X12_lays_0 {d : Nat} {r : PO × PM} {I : Nat → Nat → Int} {S : PS} {a0 : Nat} {x1 : Int} (k : Ev d mX12_lays (3, [some (vR (some (22, 0, a0))), some (vI x1), some (vI 24)], [], (I, S)) r) : Ev d mX12_lays (0, [some (vR (some (22, 0, a0))), some (vI x1), none], [], (I, S)) r :=
  s_bipush rfl rfl <|
  s_istore_n [some (vR (some (22, 0, a0))), some (vI x1), some (vI 24)] rfl rfl <|
  k
theorem b_X12_lays_3 {d : Nat} {r : PO × PM} {I : Nat → Nat → Int} {S : PS} {a0 : Nat} {x1 x2 : Int} (kt : x2 < 0 → Ev d mX12_lays (39, [some (vR (some (22, 0, a0))), some (vI x1), some (vI x2)], [], (I, S)) r) (kf : 0 ≤ x2 → Ev d mX12_lays (7, [some (vR (some (22, 0, a0))), some (vI x1), some (vI x2)], [], (I, S)) r) : Ev d mX12_lays (3, [some (vR (some (22, 0, a0))), some (vI x1), some (vI x2)], [], (I, S)) r :=
  s_iload_n rfl rfl rfl <|
  s_if_lt 39 rfl rfl kt kf
theorem b_X12_lays_7 {d : Nat} {r : PO × PM} {I : Nat → Nat → Int} {S : PS} {a0 p1 q1 : Nat} {x1 x2 : Int} (hr1 : S.1 a0 1 = some (0, q1, p1)) (hi2 : 0 ≤ I a0 2 ∧ I a0 2 < (q1 : Nat)) (ho3 : -2147483648 ≤ ((up2 I p1 ((I a0 2).toNat) (p_and (p_shr x1 x2) 255)) a0 2) + 1 ∧ ((up2 I p1 ((I a0 2).toNat) (p_and (p_shr x1 x2) 255)) a0 2) + 1 ≤ 2147483647) (ho4 : -2147483648 ≤ x2 - 8 ∧ x2 - 8 ≤ 2147483647) (k : Ev d mX12_lays (3, [some (vR (some (22, 0, a0))), some (vI x1), some (vI (x2 - 8))], [], ((up2 (up2 I p1 ((I a0 2).toNat) (p_and (p_shr x1 x2) 255)) a0 2 (((up2 I p1 ((I a0 2).toNat) (p_and (p_shr x1 x2) 255)) a0 2) + 1)), S)) r) : Ev d mX12_lays (7, [some (vR (some (22, 0, a0))), some (vI x1), some (vI x2)], [], (I, S)) r :=
  s_aload_n rfl rfl rfl <|
  s_getR rfl rfl rfl hr1 <|
  s_aload_n rfl rfl rfl <|
  s_getI rfl rfl rfl <|
  s_iload_n rfl rfl rfl <|
  s_iload_n rfl rfl rfl <|
  s_ishr rfl <|
  s_sipush rfl rfl <|
  s_iand rfl <|
  s_iast rfl hi2 <|
  s_aload_n rfl rfl rfl <|
  s_dup rfl rfl <|
  s_getI rfl rfl rfl <|
  s_iconst rfl rfl <|
  s_iaddp rfl ho3 <|
  s_putI rfl rfl rfl <|
  s_iincpn [some (vR (some (22, 0, a0))), some (vI x1), some (vI (x2 - 8))] rfl rfl ho4 rfl <|
  s_goto 3 rfl rfl k
theorem b_X12_lays_39 {d : Nat} {I : Nat → Nat → Int} {S : PS} {a0 : Nat} {x1 x2 : Int} : Ev d mX12_lays (39, [some (vR (some (22, 0, a0))), some (vI x1), some (vI x2)], [], (I, S)) (.inl none, (I, S)) :=
  s_vret rfl rfl
theorem b_X12_byteAt_0 {d : Nat} {r : PO × PM} {I : Nat → Nat → Int} {S : PS} {a0 : Nat} {x1 : Int} (kt : I a0 6 ≤ x1 → Ev d mX12_byteAt (17, [some (vR (some (22, 0, a0))), some (vI x1)], [], (I, S)) r) (kf : x1 < I a0 6 → Ev d mX12_byteAt (8, [some (vR (some (22, 0, a0))), some (vI x1)], [], (I, S)) r) : Ev d mX12_byteAt (0, [some (vR (some (22, 0, a0))), some (vI x1)], [], (I, S)) r :=
  s_iload_n rfl rfl rfl <|
  s_aload_n rfl rfl rfl <|
  s_getI rfl rfl rfl <|
  s_icmp_ge 17 rfl rfl kt kf
theorem b_X12_byteAt_8 {d : Nat} {r : PO × PM} {I : Nat → Nat → Int} {S : PS} {a0 p1 q1 : Nat} {x1 : Int} (hr1 : S.1 a0 1 = some (0, q1, p1)) (hi2 : 0 ≤ x1 ∧ x1 < (q1 : Nat)) (k : Ev d mX12_byteAt (18, [some (vR (some (22, 0, a0))), some (vI x1)], [vI (I p1 x1.toNat)], (I, S)) r) : Ev d mX12_byteAt (8, [some (vR (some (22, 0, a0))), some (vI x1)], [], (I, S)) r :=
  s_aload_n rfl rfl rfl <|
  s_getR rfl rfl rfl hr1 <|
  s_iload_n rfl rfl rfl <|
  s_iald rfl rfl hi2 <|
  s_goto 18 rfl rfl k
theorem b_X12_byteAt_17 {d : Nat} {r : PO × PM} {I : Nat → Nat → Int} {S : PS} {a0 : Nat} {x1 : Int} (k : Ev d mX12_byteAt (18, [some (vR (some (22, 0, a0))), some (vI x1)], [vI 0], (I, S)) r) : Ev d mX12_byteAt (17, [some (vR (some (22, 0, a0))), some (vI x1)], [], (I, S)) r :=
  s_iconst rfl rfl <|
  k
theorem b_X12_byteAt_18 {d : Nat} {I : Nat → Nat → Int} {S : PS} {a0 : Nat} {x1 xs0 : Int} : Ev d mX12_byteAt (18, [some (vR (some (22, 0, a0))), some (vI x1)], [vI xs0], (I, S)) (.inl (some (vI xs0)), (I, S)) :=
  s_ret rfl rfl
theorem b_X12_isLetter_0 {d : Nat} {r : PO × PM} {I : Nat → Nat → Int} {S : PS} {x0 : Int} (kt : x0 < 97 → Ev d mX12_isLetter (16, [some (vI x0)], [], (I, S)) r) (kf : 97 ≤ x0 → Ev d mX12_isLetter (6, [some (vI x0)], [], (I, S)) r) : Ev d mX12_isLetter (0, [some (vI x0)], [], (I, S)) r :=
  s_iload_n rfl rfl rfl <|
  s_bipush rfl rfl <|
  s_icmp_lt 16 rfl rfl kt kf
theorem b_X12_isLetter_6 {d : Nat} {r : PO × PM} {I : Nat → Nat → Int} {S : PS} {x0 : Int} (kt : 122 < x0 → Ev d mX12_isLetter (16, [some (vI x0)], [], (I, S)) r) (kf : x0 ≤ 122 → Ev d mX12_isLetter (12, [some (vI x0)], [], (I, S)) r) : Ev d mX12_isLetter (6, [some (vI x0)], [], (I, S)) r :=
  s_iload_n rfl rfl rfl <|
  s_bipush rfl rfl <|
  s_icmp_gt 16 rfl rfl kt kf
theorem b_X12_isLetter_12 {d : Nat} {r : PO × PM} {I : Nat → Nat → Int} {S : PS} {x0 : Int} (k : Ev d mX12_isLetter (17, [some (vI x0)], [vI 1], (I, S)) r) : Ev d mX12_isLetter (12, [some (vI x0)], [], (I, S)) r :=
  s_iconst rfl rfl <|
  s_goto 17 rfl rfl k
theorem b_X12_isLetter_16 {d : Nat} {r : PO × PM} {I : Nat → Nat → Int} {S : PS} {x0 : Int} (k : Ev d mX12_isLetter (17, [some (vI x0)], [vI 0], (I, S)) r) : Ev d mX12_isLetter (16, [some (vI x0)], [], (I, S)) r :=
  s_iconst rfl rfl <|
  k
theorem b_X12_isLetter_17 {d : Nat} {I : Nat → Nat → Int} {S : PS} {x0 xs0 : Int} (hb1 : xs0 = 0 ∨ xs0 = 1) : Ev d mX12_isLetter (17, [some (vI x0)], [vI xs0], (I, S)) (.inl (some (vI xs0)), (I, S)) :=
  s_retz rfl rfl hb1
theorem b_X12_isDigit_0 {d : Nat} {r : PO × PM} {I : Nat → Nat → Int} {S : PS} {x0 : Int} (kt : x0 < 48 → Ev d mX12_isDigit (16, [some (vI x0)], [], (I, S)) r) (kf : 48 ≤ x0 → Ev d mX12_isDigit (6, [some (vI x0)], [], (I, S)) r) : Ev d mX12_isDigit (0, [some (vI x0)], [], (I, S)) r :=
  s_iload_n rfl rfl rfl <|
  s_bipush rfl rfl <|
  s_icmp_lt 16 rfl rfl kt kf
theorem b_X12_isDigit_6 {d : Nat} {r : PO × PM} {I : Nat → Nat → Int} {S : PS} {x0 : Int} (kt : 57 < x0 → Ev d mX12_isDigit (16, [some (vI x0)], [], (I, S)) r) (kf : x0 ≤ 57 → Ev d mX12_isDigit (12, [some (vI x0)], [], (I, S)) r) : Ev d mX12_isDigit (6, [some (vI x0)], [], (I, S)) r :=
  s_iload_n rfl rfl rfl <|
  s_bipush rfl rfl <|
  s_icmp_gt 16 rfl rfl kt kf
theorem b_X12_isDigit_12 {d : Nat} {r : PO × PM} {I : Nat → Nat → Int} {S : PS} {x0 : Int} (k : Ev d mX12_isDigit (17, [some (vI x0)], [vI 1], (I, S)) r) : Ev d mX12_isDigit (12, [some (vI x0)], [], (I, S)) r :=
  s_iconst rfl rfl <|
  s_goto 17 rfl rfl k
theorem b_X12_isDigit_16 {d : Nat} {r : PO × PM} {I : Nat → Nat → Int} {S : PS} {x0 : Int} (k : Ev d mX12_isDigit (17, [some (vI x0)], [vI 0], (I, S)) r) : Ev d mX12_isDigit (16, [some (vI x0)], [], (I, S)) r :=
  s_iconst rfl rfl <|
  k
theorem b_X12_isDigit_17 {d : Nat} {I : Nat → Nat → Int} {S : PS} {x0 xs0 : Int} (hb1 : xs0 = 0 ∨ xs0 = 1) : Ev d mX12_isDigit (17, [some (vI x0)], [vI xs0], (I, S)) (.inl (some (vI xs0)), (I, S)) :=
  s_retz rfl rfl hb1
theorem b_X12_goes_0 {d : Nat} {r : PO × PM} {I : Nat → Nat → Int} {S : PS} {a0 : Nat} (kt : I a0 6 ≤ I a0 7 → Ev d mX12_goes (50, [some (vR (some (22, 0, a0))), none], [], (I, S)) r) (kf : I a0 7 < I a0 6 → Ev d mX12_goes (11, [some (vR (some (22, 0, a0))), none], [], (I, S)) r) : Ev d mX12_goes (0, [some (vR (some (22, 0, a0))), none], [], (I, S)) r :=
  s_aload_n rfl rfl rfl <|
  s_getI rfl rfl rfl <|
  s_aload_n rfl rfl rfl <|
  s_getI rfl rfl rfl <|
  s_icmp_ge 50 rfl rfl kt kf
theorem b_X12_goes_11 {d : Nat} {r : PO × PM} {I : Nat → Nat → Int} {S : PS} {a0 : Nat} {I1 : Nat → Nat → Int} {S1 : PS} {z : Int} (c : Ca d mX12_byteAt [vR (some (22, 0, a0)), vI (I a0 7)] (I, S) (.inl (some (vI z))) (I1, S1)) (k : Ev (d + 1) mX12_goes (19, [some (vR (some (22, 0, a0))), none], [vI z], (I1, S1)) r) : Ev (d + 1) mX12_goes (11, [some (vR (some (22, 0, a0))), none], [], (I, S)) r :=
  s_aload_n rfl rfl rfl <|
  s_aload_n rfl rfl rfl <|
  s_getI rfl rfl rfl <|
  s_cvI rfl rfl rfl rfl rfl c k
theorem b_X12_goes_19 {d : Nat} {r : PO × PM} {I : Nat → Nat → Int} {S : PS} {a0 : Nat} {xs0 : Int} (kt : xs0 = 32 → Ev d mX12_goes (37, [some (vR (some (22, 0, a0))), none], [], (I, S)) r) (kf : xs0 ≠ 32 → Ev d mX12_goes (24, [some (vR (some (22, 0, a0))), none], [], (I, S)) r) : Ev d mX12_goes (19, [some (vR (some (22, 0, a0))), none], [vI xs0], (I, S)) r :=
  s_bipush rfl rfl <|
  s_icmp_eq 37 rfl rfl kt kf
theorem b_X12_goes_24 {d : Nat} {r : PO × PM} {I : Nat → Nat → Int} {S : PS} {a0 : Nat} {I1 : Nat → Nat → Int} {S1 : PS} {z : Int} (c : Ca d mX12_byteAt [vR (some (22, 0, a0)), vI (I a0 7)] (I, S) (.inl (some (vI z))) (I1, S1)) (k : Ev (d + 1) mX12_goes (32, [some (vR (some (22, 0, a0))), none], [vI z], (I1, S1)) r) : Ev (d + 1) mX12_goes (24, [some (vR (some (22, 0, a0))), none], [], (I, S)) r :=
  s_aload_n rfl rfl rfl <|
  s_aload_n rfl rfl rfl <|
  s_getI rfl rfl rfl <|
  s_cvI rfl rfl rfl rfl rfl c k
theorem b_X12_goes_32 {d : Nat} {r : PO × PM} {I : Nat → Nat → Int} {S : PS} {a0 : Nat} {xs0 : Int} (kt : xs0 ≠ 10 → Ev d mX12_goes (50, [some (vR (some (22, 0, a0))), none], [], (I, S)) r) (kf : xs0 = 10 → Ev d mX12_goes (37, [some (vR (some (22, 0, a0))), none], [], (I, S)) r) : Ev d mX12_goes (32, [some (vR (some (22, 0, a0))), none], [vI xs0], (I, S)) r :=
  s_bipush rfl rfl <|
  s_icmp_ne 50 rfl rfl kt kf
theorem b_X12_goes_37 {d : Nat} {r : PO × PM} {I : Nat → Nat → Int} {S : PS} {a0 : Nat} (ho1 : -2147483648 ≤ I a0 7 + 1 ∧ I a0 7 + 1 ≤ 2147483647) (k : Ev d mX12_goes (0, [some (vR (some (22, 0, a0))), none], [], ((up2 I a0 7 (I a0 7 + 1)), S)) r) : Ev d mX12_goes (37, [some (vR (some (22, 0, a0))), none], [], (I, S)) r :=
  s_aload_n rfl rfl rfl <|
  s_dup rfl rfl <|
  s_getI rfl rfl rfl <|
  s_iconst rfl rfl <|
  s_iaddp rfl ho1 <|
  s_putI rfl rfl rfl <|
  s_goto 0 rfl rfl k
theorem b_X12_goes_50 {d : Nat} {r : PO × PM} {I : Nat → Nat → Int} {S : PS} {a0 : Nat} {I1 : Nat → Nat → Int} {S1 : PS} {z : Int} (c : Ca d mX12_byteAt [vR (some (22, 0, a0)), vI ((up2 (up2 (up2 I a0 9 (I a0 7)) a0 12 0) a0 11 0) a0 7)] ((up2 (up2 (up2 I a0 9 (I a0 7)) a0 12 0) a0 11 0), S) (.inl (some (vI z))) (I1, S1)) (k : Ev (d + 1) mX12_goes (76, [some (vR (some (22, 0, a0))), none], [vI z], (I1, S1)) r) : Ev (d + 1) mX12_goes (50, [some (vR (some (22, 0, a0))), none], [], (I, S)) r :=
  s_aload_n rfl rfl rfl <|
  s_aload_n rfl rfl rfl <|
  s_getI rfl rfl rfl <|
  s_putI rfl rfl rfl <|
  s_aload_n rfl rfl rfl <|
  s_lconst rfl rfl <|
  s_putL rfl rfl rfl <|
  s_aload_n rfl rfl rfl <|
  s_iconst rfl rfl <|
  s_putI rfl rfl rfl <|
  s_aload_n rfl rfl rfl <|
  s_aload_n rfl rfl rfl <|
  s_getI rfl rfl rfl <|
  s_cvI rfl rfl rfl rfl rfl c k
theorem b_X12_goes_76 {d : Nat} {r : PO × PM} {I : Nat → Nat → Int} {S : PS} {a0 : Nat} {xs0 : Int} (kt : I a0 7 < I a0 6 → Ev d mX12_goes (96, [some (vR (some (22, 0, a0))), some (vI xs0)], [], (I, S)) r) (kf : I a0 6 ≤ I a0 7 → Ev d mX12_goes (88, [some (vR (some (22, 0, a0))), some (vI xs0)], [], (I, S)) r) : Ev d mX12_goes (76, [some (vR (some (22, 0, a0))), none], [vI xs0], (I, S)) r :=
  s_istore_n [some (vR (some (22, 0, a0))), some (vI xs0)] rfl rfl <|
  s_aload_n rfl rfl rfl <|
  s_getI rfl rfl rfl <|
  s_aload_n rfl rfl rfl <|
  s_getI rfl rfl rfl <|
  s_icmp_lt 96 rfl rfl kt kf
theorem b_X12_goes_88 {d : Nat} {r : PO × PM} {I : Nat → Nat → Int} {S : PS} {a0 : Nat} {x1 : Int} (k : Ev d mX12_goes (277, [some (vR (some (22, 0, a0))), some (vI x1)], [], ((up2 I a0 8 0), S)) r) : Ev d mX12_goes (88, [some (vR (some (22, 0, a0))), some (vI x1)], [], (I, S)) r :=
  s_aload_n rfl rfl rfl <|
  s_iconst rfl rfl <|
  s_putI rfl rfl rfl <|
  s_goto 277 rfl rfl k
theorem b_X12_goes_96 {d : Nat} {r : PO × PM} {I : Nat → Nat → Int} {S : PS} {a0 : Nat} {x1 z : Int} {I1 : Nat → Nat → Int} {S1 : PS} (c : Ca d mX12_isLetter [vI x1] (I, S) (.inl (some (vI z))) (I1, S1)) (k : Ev (d + 1) mX12_goes (100, [some (vR (some (22, 0, a0))), some (vI x1)], [vI z], (I1, S1)) r) : Ev (d + 1) mX12_goes (96, [some (vR (some (22, 0, a0))), some (vI x1)], [], (I, S)) r :=
  s_iload_n rfl rfl rfl <|
  s_csI rfl rfl rfl rfl rfl rfl c k
theorem b_X12_goes_100 {d : Nat} {r : PO × PM} {I : Nat → Nat → Int} {S : PS} {a0 : Nat} {x1 xs0 : Int} (kt : xs0 = 0 → Ev d mX12_goes (174, [some (vR (some (22, 0, a0))), some (vI x1)], [], (I, S)) r) (kf : xs0 ≠ 0 → Ev d mX12_goes (103, [some (vR (some (22, 0, a0))), some (vI x1)], [], (I, S)) r) : Ev d mX12_goes (100, [some (vR (some (22, 0, a0))), some (vI x1)], [vI xs0], (I, S)) r :=
  s_if_eq 174 rfl rfl kt kf
theorem b_X12_goes_103 {d : Nat} {r : PO × PM} {I : Nat → Nat → Int} {S : PS} {a0 : Nat} {x1 z : Int} {I1 : Nat → Nat → Int} {S1 : PS} (c : Ca d mX12_byteAt [vR (some (22, 0, a0)), vI (I a0 7)] (I, S) (.inl (some (vI z))) (I1, S1)) (k : Ev (d + 1) mX12_goes (111, [some (vR (some (22, 0, a0))), some (vI x1)], [vI z], (I1, S1)) r) : Ev (d + 1) mX12_goes (103, [some (vR (some (22, 0, a0))), some (vI x1)], [], (I, S)) r :=
  s_aload_n rfl rfl rfl <|
  s_aload_n rfl rfl rfl <|
  s_getI rfl rfl rfl <|
  s_cvI rfl rfl rfl rfl rfl c k
theorem b_X12_goes_111 {d : Nat} {r : PO × PM} {I : Nat → Nat → Int} {S : PS} {a0 : Nat} {x1 xs0 z : Int} {I1 : Nat → Nat → Int} {S1 : PS} (c : Ca d mX12_isLetter [vI xs0] (I, S) (.inl (some (vI z))) (I1, S1)) (k : Ev (d + 1) mX12_goes (114, [some (vR (some (22, 0, a0))), some (vI x1)], [vI z], (I1, S1)) r) : Ev (d + 1) mX12_goes (111, [some (vR (some (22, 0, a0))), some (vI x1)], [vI xs0], (I, S)) r :=
  s_csI rfl rfl rfl rfl rfl rfl c k
theorem b_X12_goes_114 {d : Nat} {r : PO × PM} {I : Nat → Nat → Int} {S : PS} {a0 : Nat} {x1 xs0 : Int} (kt : xs0 = 0 → Ev d mX12_goes (166, [some (vR (some (22, 0, a0))), some (vI x1)], [], (I, S)) r) (kf : xs0 ≠ 0 → Ev d mX12_goes (117, [some (vR (some (22, 0, a0))), some (vI x1)], [], (I, S)) r) : Ev d mX12_goes (114, [some (vR (some (22, 0, a0))), some (vI x1)], [vI xs0], (I, S)) r :=
  s_if_eq 166 rfl rfl kt kf
theorem b_X12_goes_117 {d : Nat} {r : PO × PM} {I : Nat → Nat → Int} {S : PS} {a0 : Nat} {x1 : Int} (ho1 : -2147483648 ≤ I a0 7 - (I a0 9) ∧ I a0 7 - (I a0 9) ≤ 2147483647) (kt : 5 ≤ I a0 7 - (I a0 9) → Ev d mX12_goes (153, [some (vR (some (22, 0, a0))), some (vI x1)], [], (I, S)) r) (kf : I a0 7 - (I a0 9) < 5 → Ev d mX12_goes (130, [some (vR (some (22, 0, a0))), some (vI x1)], [], (I, S)) r) : Ev d mX12_goes (117, [some (vR (some (22, 0, a0))), some (vI x1)], [], (I, S)) r :=
  s_aload_n rfl rfl rfl <|
  s_getI rfl rfl rfl <|
  s_aload_n rfl rfl rfl <|
  s_getI rfl rfl rfl <|
  s_isubp rfl ho1 <|
  s_iconst rfl rfl <|
  s_icmp_ge 153 rfl rfl kt kf
theorem b_X12_goes_130 {d : Nat} {r : PO × PM} {I : Nat → Nat → Int} {S : PS} {a0 : Nat} {x1 z : Int} {I1 : Nat → Nat → Int} {S1 : PS} (c : Ca d mX12_byteAt [vR (some (22, 0, a0)), vI (I a0 7)] (I, S) (.inl (some (vI z))) (I1, S1)) (k : Ev (d + 1) mX12_goes (145, [some (vR (some (22, 0, a0))), some (vI x1)], [vI z, vL (p_lshl (I a0 12) 5), vR (some (22, 0, a0))], (I1, S1)) r) : Ev (d + 1) mX12_goes (130, [some (vR (some (22, 0, a0))), some (vI x1)], [], (I, S)) r :=
  s_aload_n rfl rfl rfl <|
  s_aload_n rfl rfl rfl <|
  s_getL rfl rfl rfl <|
  s_iconst rfl rfl <|
  s_lshl rfl <|
  s_aload_n rfl rfl rfl <|
  s_aload_n rfl rfl rfl <|
  s_getI rfl rfl rfl <|
  s_cvI rfl rfl rfl rfl rfl c k
theorem b_X12_goes_145 {d : Nat} {r : PO × PM} {I : Nat → Nat → Int} {S : PS} {a0 as0 : Nat} {x1 ys1 xs2 : Int} (ho1 : -2147483648 ≤ xs2 - 96 ∧ xs2 - 96 ≤ 2147483647) (k : Ev d mX12_goes (153, [some (vR (some (22, 0, a0))), some (vI x1)], [], ((up2 I as0 12 (p_lor ys1 (p_i2l (xs2 - 96)))), S)) r) : Ev d mX12_goes (145, [some (vR (some (22, 0, a0))), some (vI x1)], [vI xs2, vL ys1, vR (some (22, 0, as0))], (I, S)) r :=
  s_bipush rfl rfl <|
  s_isubp rfl ho1 <|
  s_i2l rfl <|
  s_lor rfl <|
  s_putL rfl rfl rfl <|
  k
theorem b_X12_goes_153 {d : Nat} {r : PO × PM} {I : Nat → Nat → Int} {S : PS} {a0 : Nat} {x1 : Int} (ho1 : -2147483648 ≤ I a0 7 + 1 ∧ I a0 7 + 1 ≤ 2147483647) (k : Ev d mX12_goes (103, [some (vR (some (22, 0, a0))), some (vI x1)], [], ((up2 I a0 7 (I a0 7 + 1)), S)) r) : Ev d mX12_goes (153, [some (vR (some (22, 0, a0))), some (vI x1)], [], (I, S)) r :=
  s_aload_n rfl rfl rfl <|
  s_dup rfl rfl <|
  s_getI rfl rfl rfl <|
  s_iconst rfl rfl <|
  s_iaddp rfl ho1 <|
  s_putI rfl rfl rfl <|
  s_goto 103 rfl rfl k
theorem b_X12_goes_166 {d : Nat} {r : PO × PM} {I : Nat → Nat → Int} {S : PS} {a0 : Nat} {x1 : Int} (k : Ev d mX12_goes (277, [some (vR (some (22, 0, a0))), some (vI x1)], [], ((up2 I a0 8 1), S)) r) : Ev d mX12_goes (166, [some (vR (some (22, 0, a0))), some (vI x1)], [], (I, S)) r :=
  s_aload_n rfl rfl rfl <|
  s_iconst rfl rfl <|
  s_putI rfl rfl rfl <|
  s_goto 277 rfl rfl k
theorem b_X12_goes_174 {d : Nat} {r : PO × PM} {I : Nat → Nat → Int} {S : PS} {a0 : Nat} {x1 z : Int} {I1 : Nat → Nat → Int} {S1 : PS} (c : Ca d mX12_isDigit [vI x1] (I, S) (.inl (some (vI z))) (I1, S1)) (k : Ev (d + 1) mX12_goes (178, [some (vR (some (22, 0, a0))), some (vI x1)], [vI z], (I1, S1)) r) : Ev (d + 1) mX12_goes (174, [some (vR (some (22, 0, a0))), some (vI x1)], [], (I, S)) r :=
  s_iload_n rfl rfl rfl <|
  s_csI rfl rfl rfl rfl rfl rfl c k
theorem b_X12_goes_178 {d : Nat} {r : PO × PM} {I : Nat → Nat → Int} {S : PS} {a0 : Nat} {x1 xs0 : Int} (kt : xs0 = 0 → Ev d mX12_goes (252, [some (vR (some (22, 0, a0))), some (vI x1)], [], (I, S)) r) (kf : xs0 ≠ 0 → Ev d mX12_goes (181, [some (vR (some (22, 0, a0))), some (vI x1)], [], (I, S)) r) : Ev d mX12_goes (178, [some (vR (some (22, 0, a0))), some (vI x1)], [vI xs0], (I, S)) r :=
  s_if_eq 252 rfl rfl kt kf
theorem b_X12_goes_181 {d : Nat} {r : PO × PM} {I : Nat → Nat → Int} {S : PS} {a0 : Nat} {x1 z : Int} {I1 : Nat → Nat → Int} {S1 : PS} (c : Ca d mX12_byteAt [vR (some (22, 0, a0)), vI (I a0 7)] (I, S) (.inl (some (vI z))) (I1, S1)) (k : Ev (d + 1) mX12_goes (189, [some (vR (some (22, 0, a0))), some (vI x1)], [vI z], (I1, S1)) r) : Ev (d + 1) mX12_goes (181, [some (vR (some (22, 0, a0))), some (vI x1)], [], (I, S)) r :=
  s_aload_n rfl rfl rfl <|
  s_aload_n rfl rfl rfl <|
  s_getI rfl rfl rfl <|
  s_cvI rfl rfl rfl rfl rfl c k
theorem b_X12_goes_189 {d : Nat} {r : PO × PM} {I : Nat → Nat → Int} {S : PS} {a0 : Nat} {x1 xs0 z : Int} {I1 : Nat → Nat → Int} {S1 : PS} (c : Ca d mX12_isDigit [vI xs0] (I, S) (.inl (some (vI z))) (I1, S1)) (k : Ev (d + 1) mX12_goes (192, [some (vR (some (22, 0, a0))), some (vI x1)], [vI z], (I1, S1)) r) : Ev (d + 1) mX12_goes (189, [some (vR (some (22, 0, a0))), some (vI x1)], [vI xs0], (I, S)) r :=
  s_csI rfl rfl rfl rfl rfl rfl c k
theorem b_X12_goes_192 {d : Nat} {r : PO × PM} {I : Nat → Nat → Int} {S : PS} {a0 : Nat} {x1 xs0 : Int} (kt : xs0 = 0 → Ev d mX12_goes (244, [some (vR (some (22, 0, a0))), some (vI x1)], [], (I, S)) r) (kf : xs0 ≠ 0 → Ev d mX12_goes (195, [some (vR (some (22, 0, a0))), some (vI x1)], [], (I, S)) r) : Ev d mX12_goes (192, [some (vR (some (22, 0, a0))), some (vI x1)], [vI xs0], (I, S)) r :=
  s_if_eq 244 rfl rfl kt kf
theorem b_X12_goes_195 {d : Nat} {r : PO × PM} {I : Nat → Nat → Int} {S : PS} {a0 : Nat} {x1 : Int} (ho1 : -2147483648 ≤ I a0 7 - (I a0 9) ∧ I a0 7 - (I a0 9) ≤ 2147483647) (kt : 4 ≤ I a0 7 - (I a0 9) → Ev d mX12_goes (231, [some (vR (some (22, 0, a0))), some (vI x1)], [], (I, S)) r) (kf : I a0 7 - (I a0 9) < 4 → Ev d mX12_goes (208, [some (vR (some (22, 0, a0))), some (vI x1)], [], (I, S)) r) : Ev d mX12_goes (195, [some (vR (some (22, 0, a0))), some (vI x1)], [], (I, S)) r :=
  s_aload_n rfl rfl rfl <|
  s_getI rfl rfl rfl <|
  s_aload_n rfl rfl rfl <|
  s_getI rfl rfl rfl <|
  s_isubp rfl ho1 <|
  s_iconst rfl rfl <|
  s_icmp_ge 231 rfl rfl kt kf
theorem b_X12_goes_208 {d : Nat} {r : PO × PM} {I : Nat → Nat → Int} {S : PS} {a0 : Nat} {x1 z : Int} {I1 : Nat → Nat → Int} {S1 : PS} (ho1 : -2147483648 ≤ 10 * (I a0 11) ∧ 10 * (I a0 11) ≤ 2147483647) (c : Ca d mX12_byteAt [vR (some (22, 0, a0)), vI (I a0 7)] (I, S) (.inl (some (vI z))) (I1, S1)) (k : Ev (d + 1) mX12_goes (224, [some (vR (some (22, 0, a0))), some (vI x1)], [vI z, vI (10 * (I a0 11)), vR (some (22, 0, a0))], (I1, S1)) r) : Ev (d + 1) mX12_goes (208, [some (vR (some (22, 0, a0))), some (vI x1)], [], (I, S)) r :=
  s_aload_n rfl rfl rfl <|
  s_bipush rfl rfl <|
  s_aload_n rfl rfl rfl <|
  s_getI rfl rfl rfl <|
  s_imulp rfl ho1 <|
  s_aload_n rfl rfl rfl <|
  s_aload_n rfl rfl rfl <|
  s_getI rfl rfl rfl <|
  s_cvI rfl rfl rfl rfl rfl c k
theorem b_X12_goes_224 {d : Nat} {r : PO × PM} {I : Nat → Nat → Int} {S : PS} {a0 as0 : Nat} {x1 xs1 xs2 : Int} (ho1 : -2147483648 ≤ xs1 + xs2 ∧ xs1 + xs2 ≤ 2147483647) (ho2 : -2147483648 ≤ xs1 + xs2 - 48 ∧ xs1 + xs2 - 48 ≤ 2147483647) (k : Ev d mX12_goes (231, [some (vR (some (22, 0, a0))), some (vI x1)], [], ((up2 I as0 11 (xs1 + xs2 - 48)), S)) r) : Ev d mX12_goes (224, [some (vR (some (22, 0, a0))), some (vI x1)], [vI xs2, vI xs1, vR (some (22, 0, as0))], (I, S)) r :=
  s_iaddp rfl ho1 <|
  s_bipush rfl rfl <|
  s_isubp rfl ho2 <|
  s_putI rfl rfl rfl <|
  k
theorem b_X12_goes_231 {d : Nat} {r : PO × PM} {I : Nat → Nat → Int} {S : PS} {a0 : Nat} {x1 : Int} (ho1 : -2147483648 ≤ I a0 7 + 1 ∧ I a0 7 + 1 ≤ 2147483647) (k : Ev d mX12_goes (181, [some (vR (some (22, 0, a0))), some (vI x1)], [], ((up2 I a0 7 (I a0 7 + 1)), S)) r) : Ev d mX12_goes (231, [some (vR (some (22, 0, a0))), some (vI x1)], [], (I, S)) r :=
  s_aload_n rfl rfl rfl <|
  s_dup rfl rfl <|
  s_getI rfl rfl rfl <|
  s_iconst rfl rfl <|
  s_iaddp rfl ho1 <|
  s_putI rfl rfl rfl <|
  s_goto 181 rfl rfl k
theorem b_X12_goes_244 {d : Nat} {r : PO × PM} {I : Nat → Nat → Int} {S : PS} {a0 : Nat} {x1 : Int} (k : Ev d mX12_goes (277, [some (vR (some (22, 0, a0))), some (vI x1)], [], ((up2 I a0 8 2), S)) r) : Ev d mX12_goes (244, [some (vR (some (22, 0, a0))), some (vI x1)], [], (I, S)) r :=
  s_aload_n rfl rfl rfl <|
  s_iconst rfl rfl <|
  s_putI rfl rfl rfl <|
  s_goto 277 rfl rfl k
theorem b_X12_goes_252 {d : Nat} {r : PO × PM} {I : Nat → Nat → Int} {S : PS} {a0 : Nat} {x1 : Int} (ho1 : -2147483648 ≤ I a0 7 + 1 ∧ I a0 7 + 1 ≤ 2147483647) (kt : x1 ≠ 59 → Ev d mX12_goes (273, [some (vR (some (22, 0, a0))), some (vI x1)], [vR (some (22, 0, a0))], ((up2 I a0 7 (I a0 7 + 1)), S)) r) (kf : x1 = 59 → Ev d mX12_goes (269, [some (vR (some (22, 0, a0))), some (vI x1)], [vR (some (22, 0, a0))], ((up2 I a0 7 (I a0 7 + 1)), S)) r) : Ev d mX12_goes (252, [some (vR (some (22, 0, a0))), some (vI x1)], [], (I, S)) r :=
  s_aload_n rfl rfl rfl <|
  s_dup rfl rfl <|
  s_getI rfl rfl rfl <|
  s_iconst rfl rfl <|
  s_iaddp rfl ho1 <|
  s_putI rfl rfl rfl <|
  s_aload_n rfl rfl rfl <|
  s_iload_n rfl rfl rfl <|
  s_bipush rfl rfl <|
  s_icmp_ne 273 rfl rfl kt kf
theorem b_X12_goes_269 {d : Nat} {r : PO × PM} {I : Nat → Nat → Int} {S : PS} {a0 as0 : Nat} {x1 : Int} (k : Ev d mX12_goes (274, [some (vR (some (22, 0, a0))), some (vI x1)], [vI 3, vR (some (22, 0, as0))], (I, S)) r) : Ev d mX12_goes (269, [some (vR (some (22, 0, a0))), some (vI x1)], [vR (some (22, 0, as0))], (I, S)) r :=
  s_iconst rfl rfl <|
  s_goto 274 rfl rfl k
theorem b_X12_goes_273 {d : Nat} {r : PO × PM} {I : Nat → Nat → Int} {S : PS} {a0 as0 : Nat} {x1 : Int} (k : Ev d mX12_goes (274, [some (vR (some (22, 0, a0))), some (vI x1)], [vI 4, vR (some (22, 0, as0))], (I, S)) r) : Ev d mX12_goes (273, [some (vR (some (22, 0, a0))), some (vI x1)], [vR (some (22, 0, as0))], (I, S)) r :=
  s_iconst rfl rfl <|
  k
theorem b_X12_goes_274 {d : Nat} {r : PO × PM} {I : Nat → Nat → Int} {S : PS} {a0 as0 : Nat} {x1 xs1 : Int} (k : Ev d mX12_goes (277, [some (vR (some (22, 0, a0))), some (vI x1)], [], ((up2 I as0 8 xs1), S)) r) : Ev d mX12_goes (274, [some (vR (some (22, 0, a0))), some (vI x1)], [vI xs1, vR (some (22, 0, as0))], (I, S)) r :=
  s_putI rfl rfl rfl <|
  k
theorem b_X12_goes_277 {d : Nat} {I : Nat → Nat → Int} {S : PS} {a0 : Nat} {x1 : Int} (ho1 : -2147483648 ≤ I a0 7 - (I a0 9) ∧ I a0 7 - (I a0 9) ≤ 2147483647) : Ev d mX12_goes (277, [some (vR (some (22, 0, a0))), some (vI x1)], [], (I, S)) (.inl none, ((up2 I a0 10 (I a0 7 - (I a0 9))), S)) :=
  s_aload_n rfl rfl rfl <|
  s_aload_n rfl rfl rfl <|
  s_getI rfl rfl rfl <|
  s_aload_n rfl rfl rfl <|
  s_getI rfl rfl rfl <|
  s_isubp rfl ho1 <|
  s_putI rfl rfl rfl <|
  s_vret rfl rfl
theorem b_X12_spelled_0 {d : Nat} {r : PO × PM} {I : Nat → Nat → Int} {S : PS} {x0 x1 x2 x3 x4 : Int} (ho1 : -2147483648 ≤ x1 - 96 ∧ x1 - 96 ≤ 2147483647) (kt : x2 = 0 → Ev d mX12_spelled (32, [some (vI x0), some (vI x1), some (vI x2), some (vI x3), some (vI x4), some (vL (p_lor (p_lshl (p_lsub (p_i2l x0) 96) 5) (p_i2l (x1 - 96)))), none], [], (I, S)) r) (kf : x2 ≠ 0 → Ev d mX12_spelled (20, [some (vI x0), some (vI x1), some (vI x2), some (vI x3), some (vI x4), some (vL (p_lor (p_lshl (p_lsub (p_i2l x0) 96) 5) (p_i2l (x1 - 96)))), none], [], (I, S)) r) : Ev d mX12_spelled (0, [some (vI x0), some (vI x1), some (vI x2), some (vI x3), some (vI x4), none, none], [], (I, S)) r :=
  s_iload_n rfl rfl rfl <|
  s_i2l rfl <|
  s_ldc2_w rfl rfl <|
  s_lsub rfl <|
  s_iconst rfl rfl <|
  s_lshl rfl <|
  s_iload_n rfl rfl rfl <|
  s_bipush rfl rfl <|
  s_isubp rfl ho1 <|
  s_i2l rfl <|
  s_lor rfl <|
  s_lstore [some (vI x0), some (vI x1), some (vI x2), some (vI x3), some (vI x4), some (vL (p_lor (p_lshl (p_lsub (p_i2l x0) 96) 5) (p_i2l (x1 - 96)))), none] rfl rfl <|
  s_iload_n rfl rfl rfl <|
  s_if_eq 32 rfl rfl kt kf
theorem b_X12_spelled_20 {d : Nat} {r : PO × PM} {I : Nat → Nat → Int} {S : PS} {x0 x1 x2 x3 x4 y5 : Int} (ho1 : -2147483648 ≤ x2 - 96 ∧ x2 - 96 ≤ 2147483647) (k : Ev d mX12_spelled (32, [some (vI x0), some (vI x1), some (vI x2), some (vI x3), some (vI x4), some (vL (p_lor (p_lshl y5 5) (p_i2l (x2 - 96)))), none], [], (I, S)) r) : Ev d mX12_spelled (20, [some (vI x0), some (vI x1), some (vI x2), some (vI x3), some (vI x4), some (vL y5), none], [], (I, S)) r :=
  s_lload rfl rfl rfl <|
  s_iconst rfl rfl <|
  s_lshl rfl <|
  s_iload_n rfl rfl rfl <|
  s_bipush rfl rfl <|
  s_isubp rfl ho1 <|
  s_i2l rfl <|
  s_lor rfl <|
  s_lstore [some (vI x0), some (vI x1), some (vI x2), some (vI x3), some (vI x4), some (vL (p_lor (p_lshl y5 5) (p_i2l (x2 - 96)))), none] rfl rfl <|
  k
theorem b_X12_spelled_32 {d : Nat} {r : PO × PM} {I : Nat → Nat → Int} {S : PS} {x0 x1 x2 x3 x4 y5 : Int} (kt : x3 = 0 → Ev d mX12_spelled (48, [some (vI x0), some (vI x1), some (vI x2), some (vI x3), some (vI x4), some (vL y5), none], [], (I, S)) r) (kf : x3 ≠ 0 → Ev d mX12_spelled (36, [some (vI x0), some (vI x1), some (vI x2), some (vI x3), some (vI x4), some (vL y5), none], [], (I, S)) r) : Ev d mX12_spelled (32, [some (vI x0), some (vI x1), some (vI x2), some (vI x3), some (vI x4), some (vL y5), none], [], (I, S)) r :=
  s_iload_n rfl rfl rfl <|
  s_if_eq 48 rfl rfl kt kf
theorem b_X12_spelled_36 {d : Nat} {r : PO × PM} {I : Nat → Nat → Int} {S : PS} {x0 x1 x2 x3 x4 y5 : Int} (ho1 : -2147483648 ≤ x3 - 96 ∧ x3 - 96 ≤ 2147483647) (k : Ev d mX12_spelled (48, [some (vI x0), some (vI x1), some (vI x2), some (vI x3), some (vI x4), some (vL (p_lor (p_lshl y5 5) (p_i2l (x3 - 96)))), none], [], (I, S)) r) : Ev d mX12_spelled (36, [some (vI x0), some (vI x1), some (vI x2), some (vI x3), some (vI x4), some (vL y5), none], [], (I, S)) r :=
  s_lload rfl rfl rfl <|
  s_iconst rfl rfl <|
  s_lshl rfl <|
  s_iload_n rfl rfl rfl <|
  s_bipush rfl rfl <|
  s_isubp rfl ho1 <|
  s_i2l rfl <|
  s_lor rfl <|
  s_lstore [some (vI x0), some (vI x1), some (vI x2), some (vI x3), some (vI x4), some (vL (p_lor (p_lshl y5 5) (p_i2l (x3 - 96)))), none] rfl rfl <|
  k
theorem b_X12_spelled_48 {d : Nat} {r : PO × PM} {I : Nat → Nat → Int} {S : PS} {x0 x1 x2 x3 x4 y5 : Int} (kt : x4 = 0 → Ev d mX12_spelled (66, [some (vI x0), some (vI x1), some (vI x2), some (vI x3), some (vI x4), some (vL y5), none], [], (I, S)) r) (kf : x4 ≠ 0 → Ev d mX12_spelled (53, [some (vI x0), some (vI x1), some (vI x2), some (vI x3), some (vI x4), some (vL y5), none], [], (I, S)) r) : Ev d mX12_spelled (48, [some (vI x0), some (vI x1), some (vI x2), some (vI x3), some (vI x4), some (vL y5), none], [], (I, S)) r :=
  s_iload rfl rfl rfl <|
  s_if_eq 66 rfl rfl kt kf
theorem b_X12_spelled_53 {d : Nat} {r : PO × PM} {I : Nat → Nat → Int} {S : PS} {x0 x1 x2 x3 x4 y5 : Int} (ho1 : -2147483648 ≤ x4 - 96 ∧ x4 - 96 ≤ 2147483647) (k : Ev d mX12_spelled (66, [some (vI x0), some (vI x1), some (vI x2), some (vI x3), some (vI x4), some (vL (p_lor (p_lshl y5 5) (p_i2l (x4 - 96)))), none], [], (I, S)) r) : Ev d mX12_spelled (53, [some (vI x0), some (vI x1), some (vI x2), some (vI x3), some (vI x4), some (vL y5), none], [], (I, S)) r :=
  s_lload rfl rfl rfl <|
  s_iconst rfl rfl <|
  s_lshl rfl <|
  s_iload rfl rfl rfl <|
  s_bipush rfl rfl <|
  s_isubp rfl ho1 <|
  s_i2l rfl <|
  s_lor rfl <|
  s_lstore [some (vI x0), some (vI x1), some (vI x2), some (vI x3), some (vI x4), some (vL (p_lor (p_lshl y5 5) (p_i2l (x4 - 96)))), none] rfl rfl <|
  k
theorem b_X12_spelled_66 {d : Nat} {I : Nat → Nat → Int} {S : PS} {x0 x1 x2 x3 x4 y5 : Int} : Ev d mX12_spelled (66, [some (vI x0), some (vI x1), some (vI x2), some (vI x3), some (vI x4), some (vL y5), none], [], (I, S)) (.inl (some (vL y5)), (I, S)) :=
  s_lload rfl rfl rfl <|
  s_lret rfl rfl
theorem b_X12_letters_0 {d : Nat} {r : PO × PM} {I : Nat → Nat → Int} {S : PS} {x0 : Int} (k0 : x0 = 0 → Ev d mX12_letters (64, [some (vI x0)], [], (I, S)) r) (k1 : x0 = 1 → Ev d mX12_letters (78, [some (vI x0)], [], (I, S)) r) (k2 : x0 = 2 → Ev d mX12_letters (91, [some (vI x0)], [], (I, S)) r) (k3 : x0 = 3 → Ev d mX12_letters (104, [some (vI x0)], [], (I, S)) r) (k4 : x0 = 4 → Ev d mX12_letters (117, [some (vI x0)], [], (I, S)) r) (k5 : x0 = 5 → Ev d mX12_letters (128, [some (vI x0)], [], (I, S)) r) (k6 : x0 = 6 → Ev d mX12_letters (141, [some (vI x0)], [], (I, S)) r) (k7 : x0 = 7 → Ev d mX12_letters (154, [some (vI x0)], [], (I, S)) r) (k8 : x0 = 8 → Ev d mX12_letters (167, [some (vI x0)], [], (I, S)) r) (k9 : x0 = 9 → Ev d mX12_letters (181, [some (vI x0)], [], (I, S)) r) (k10 : x0 = 10 → Ev d mX12_letters (194, [some (vI x0)], [], (I, S)) r) (k11 : x0 = 11 → Ev d mX12_letters (207, [some (vI x0)], [], (I, S)) r) (kd : ¬(0 ≤ x0 ∧ x0 ≤ 11) → Ev d mX12_letters (221, [some (vI x0)], [], (I, S)) r) : Ev d mX12_letters (0, [some (vI x0)], [], (I, S)) r :=
  s_iload_n rfl rfl rfl <|
  s_sw 221 rfl (by decide) (fun c => kd c) (fun j hj => by
  match j, hj with
  | 0, _ => exact fun c => k0 c
  | 1, _ => exact fun c => k1 c
  | 2, _ => exact fun c => k2 c
  | 3, _ => exact fun c => k3 c
  | 4, _ => exact fun c => k4 c
  | 5, _ => exact fun c => k5 c
  | 6, _ => exact fun c => k6 c
  | 7, _ => exact fun c => k7 c
  | 8, _ => exact fun c => k8 c
  | 9, _ => exact fun c => k9 c
  | 10, _ => exact fun c => k10 c
  | 11, _ => exact fun c => k11 c
  | j + 12, hj => exact absurd hj (by simp))
theorem b_X12_letters_64 {d : Nat} {r : PO × PM} {I : Nat → Nat → Int} {S : PS} {x0 z : Int} {I1 : Nat → Nat → Int} {S1 : PS} (c : Ca d mX12_spelled [vI 112, vI 105, vI 101, vI 99, vI 101] (I, S) (.inl (some (vL z))) (I1, S1)) (k : Ev (d + 1) mX12_letters (77, [some (vI x0)], [vL z], (I1, S1)) r) : Ev (d + 1) mX12_letters (64, [some (vI x0)], [], (I, S)) r :=
  s_bipush rfl rfl <|
  s_bipush rfl rfl <|
  s_bipush rfl rfl <|
  s_bipush rfl rfl <|
  s_bipush rfl rfl <|
  s_csL rfl rfl rfl rfl rfl rfl c k
theorem b_X12_letters_77 {d : Nat} {I : Nat → Nat → Int} {S : PS} {x0 ys0 : Int} : Ev d mX12_letters (77, [some (vI x0)], [vL ys0], (I, S)) (.inl (some (vL ys0)), (I, S)) :=
  s_lret rfl rfl
theorem b_X12_letters_78 {d : Nat} {r : PO × PM} {I : Nat → Nat → Int} {S : PS} {x0 z : Int} {I1 : Nat → Nat → Int} {S1 : PS} (c : Ca d mX12_spelled [vI 106, vI 111, vI 105, vI 110, vI 0] (I, S) (.inl (some (vL z))) (I1, S1)) (k : Ev (d + 1) mX12_letters (90, [some (vI x0)], [vL z], (I1, S1)) r) : Ev (d + 1) mX12_letters (78, [some (vI x0)], [], (I, S)) r :=
  s_bipush rfl rfl <|
  s_bipush rfl rfl <|
  s_bipush rfl rfl <|
  s_bipush rfl rfl <|
  s_iconst rfl rfl <|
  s_csL rfl rfl rfl rfl rfl rfl c k
theorem b_X12_letters_90 {d : Nat} {I : Nat → Nat → Int} {S : PS} {x0 ys0 : Int} : Ev d mX12_letters (90, [some (vI x0)], [vL ys0], (I, S)) (.inl (some (vL ys0)), (I, S)) :=
  s_lret rfl rfl
theorem b_X12_letters_91 {d : Nat} {r : PO × PM} {I : Nat → Nat → Int} {S : PS} {x0 z : Int} {I1 : Nat → Nat → Int} {S1 : PS} (c : Ca d mX12_spelled [vI 114, vI 117, vI 108, vI 101, vI 0] (I, S) (.inl (some (vL z))) (I1, S1)) (k : Ev (d + 1) mX12_letters (103, [some (vI x0)], [vL z], (I1, S1)) r) : Ev (d + 1) mX12_letters (91, [some (vI x0)], [], (I, S)) r :=
  s_bipush rfl rfl <|
  s_bipush rfl rfl <|
  s_bipush rfl rfl <|
  s_bipush rfl rfl <|
  s_iconst rfl rfl <|
  s_csL rfl rfl rfl rfl rfl rfl c k
theorem b_X12_letters_103 {d : Nat} {I : Nat → Nat → Int} {S : PS} {x0 ys0 : Int} : Ev d mX12_letters (103, [some (vI x0)], [vL ys0], (I, S)) (.inl (some (vL ys0)), (I, S)) :=
  s_lret rfl rfl
theorem b_X12_letters_104 {d : Nat} {r : PO × PM} {I : Nat → Nat → Int} {S : PS} {x0 z : Int} {I1 : Nat → Nat → Int} {S1 : PS} (c : Ca d mX12_spelled [vI 102, vI 114, vI 111, vI 109, vI 0] (I, S) (.inl (some (vL z))) (I1, S1)) (k : Ev (d + 1) mX12_letters (116, [some (vI x0)], [vL z], (I1, S1)) r) : Ev (d + 1) mX12_letters (104, [some (vI x0)], [], (I, S)) r :=
  s_bipush rfl rfl <|
  s_bipush rfl rfl <|
  s_bipush rfl rfl <|
  s_bipush rfl rfl <|
  s_iconst rfl rfl <|
  s_csL rfl rfl rfl rfl rfl rfl c k
theorem b_X12_letters_116 {d : Nat} {I : Nat → Nat → Int} {S : PS} {x0 ys0 : Int} : Ev d mX12_letters (116, [some (vI x0)], [vL ys0], (I, S)) (.inl (some (vL ys0)), (I, S)) :=
  s_lret rfl rfl
theorem b_X12_letters_117 {d : Nat} {r : PO × PM} {I : Nat → Nat → Int} {S : PS} {x0 z : Int} {I1 : Nat → Nat → Int} {S1 : PS} (c : Ca d mX12_spelled [vI 116, vI 111, vI 0, vI 0, vI 0] (I, S) (.inl (some (vL z))) (I1, S1)) (k : Ev (d + 1) mX12_letters (127, [some (vI x0)], [vL z], (I1, S1)) r) : Ev (d + 1) mX12_letters (117, [some (vI x0)], [], (I, S)) r :=
  s_bipush rfl rfl <|
  s_bipush rfl rfl <|
  s_iconst rfl rfl <|
  s_iconst rfl rfl <|
  s_iconst rfl rfl <|
  s_csL rfl rfl rfl rfl rfl rfl c k
theorem b_X12_letters_127 {d : Nat} {I : Nat → Nat → Int} {S : PS} {x0 ys0 : Int} : Ev d mX12_letters (127, [some (vI x0)], [vL ys0], (I, S)) (.inl (some (vL ys0)), (I, S)) :=
  s_lret rfl rfl
theorem b_X12_letters_128 {d : Nat} {r : PO × PM} {I : Nat → Nat → Int} {S : PS} {x0 z : Int} {I1 : Nat → Nat → Int} {S1 : PS} (c : Ca d mX12_spelled [vI 119, vI 105, vI 116, vI 104, vI 0] (I, S) (.inl (some (vL z))) (I1, S1)) (k : Ev (d + 1) mX12_letters (140, [some (vI x0)], [vL z], (I1, S1)) r) : Ev (d + 1) mX12_letters (128, [some (vI x0)], [], (I, S)) r :=
  s_bipush rfl rfl <|
  s_bipush rfl rfl <|
  s_bipush rfl rfl <|
  s_bipush rfl rfl <|
  s_iconst rfl rfl <|
  s_csL rfl rfl rfl rfl rfl rfl c k
theorem b_X12_letters_140 {d : Nat} {I : Nat → Nat → Int} {S : PS} {x0 ys0 : Int} : Ev d mX12_letters (140, [some (vI x0)], [vL ys0], (I, S)) (.inl (some (vL ys0)), (I, S)) :=
  s_lret rfl rfl
theorem b_X12_letters_141 {d : Nat} {r : PO × PM} {I : Nat → Nat → Int} {S : PS} {x0 z : Int} {I1 : Nat → Nat → Int} {S1 : PS} (c : Ca d mX12_spelled [vI 98, vI 111, vI 116, vI 104, vI 0] (I, S) (.inl (some (vL z))) (I1, S1)) (k : Ev (d + 1) mX12_letters (153, [some (vI x0)], [vL z], (I1, S1)) r) : Ev (d + 1) mX12_letters (141, [some (vI x0)], [], (I, S)) r :=
  s_bipush rfl rfl <|
  s_bipush rfl rfl <|
  s_bipush rfl rfl <|
  s_bipush rfl rfl <|
  s_iconst rfl rfl <|
  s_csL rfl rfl rfl rfl rfl rfl c k
theorem b_X12_letters_153 {d : Nat} {I : Nat → Nat → Int} {S : PS} {x0 ys0 : Int} : Ev d mX12_letters (153, [some (vI x0)], [vL ys0], (I, S)) (.inl (some (vL ys0)), (I, S)) :=
  s_lret rfl rfl
theorem b_X12_letters_154 {d : Nat} {r : PO × PM} {I : Nat → Nat → Int} {S : PS} {x0 z : Int} {I1 : Nat → Nat → Int} {S1 : PS} (c : Ca d mX12_spelled [vI 115, vI 112, vI 111, vI 116, vI 0] (I, S) (.inl (some (vL z))) (I1, S1)) (k : Ev (d + 1) mX12_letters (166, [some (vI x0)], [vL z], (I1, S1)) r) : Ev (d + 1) mX12_letters (154, [some (vI x0)], [], (I, S)) r :=
  s_bipush rfl rfl <|
  s_bipush rfl rfl <|
  s_bipush rfl rfl <|
  s_bipush rfl rfl <|
  s_iconst rfl rfl <|
  s_csL rfl rfl rfl rfl rfl rfl c k
theorem b_X12_letters_166 {d : Nat} {I : Nat → Nat → Int} {S : PS} {x0 ys0 : Int} : Ev d mX12_letters (166, [some (vI x0)], [vL ys0], (I, S)) (.inl (some (vL ys0)), (I, S)) :=
  s_lret rfl rfl
theorem b_X12_letters_167 {d : Nat} {r : PO × PM} {I : Nat → Nat → Int} {S : PS} {x0 z : Int} {I1 : Nat → Nat → Int} {S1 : PS} (c : Ca d mX12_spelled [vI 112, vI 97, vI 105, vI 110, vI 116] (I, S) (.inl (some (vL z))) (I1, S1)) (k : Ev (d + 1) mX12_letters (180, [some (vI x0)], [vL z], (I1, S1)) r) : Ev (d + 1) mX12_letters (167, [some (vI x0)], [], (I, S)) r :=
  s_bipush rfl rfl <|
  s_bipush rfl rfl <|
  s_bipush rfl rfl <|
  s_bipush rfl rfl <|
  s_bipush rfl rfl <|
  s_csL rfl rfl rfl rfl rfl rfl c k
theorem b_X12_letters_180 {d : Nat} {I : Nat → Nat → Int} {S : PS} {x0 ys0 : Int} : Ev d mX12_letters (180, [some (vI x0)], [vL ys0], (I, S)) (.inl (some (vL ys0)), (I, S)) :=
  s_lret rfl rfl
theorem b_X12_letters_181 {d : Nat} {r : PO × PM} {I : Nat → Nat → Int} {S : PS} {x0 z : Int} {I1 : Nat → Nat → Int} {S1 : PS} (c : Ca d mX12_spelled [vI 119, vI 97, vI 115, vI 104, vI 0] (I, S) (.inl (some (vL z))) (I1, S1)) (k : Ev (d + 1) mX12_letters (193, [some (vI x0)], [vL z], (I1, S1)) r) : Ev (d + 1) mX12_letters (181, [some (vI x0)], [], (I, S)) r :=
  s_bipush rfl rfl <|
  s_bipush rfl rfl <|
  s_bipush rfl rfl <|
  s_bipush rfl rfl <|
  s_iconst rfl rfl <|
  s_csL rfl rfl rfl rfl rfl rfl c k
theorem b_X12_letters_193 {d : Nat} {I : Nat → Nat → Int} {S : PS} {x0 ys0 : Int} : Ev d mX12_letters (193, [some (vI x0)], [vL ys0], (I, S)) (.inl (some (vL ys0)), (I, S)) :=
  s_lret rfl rfl
theorem b_X12_letters_194 {d : Nat} {r : PO × PM} {I : Nat → Nat → Int} {S : PS} {x0 z : Int} {I1 : Nat → Nat → Int} {S1 : PS} (c : Ca d mX12_spelled [vI 115, vI 119, vI 97, vI 112, vI 0] (I, S) (.inl (some (vL z))) (I1, S1)) (k : Ev (d + 1) mX12_letters (206, [some (vI x0)], [vL z], (I1, S1)) r) : Ev (d + 1) mX12_letters (194, [some (vI x0)], [], (I, S)) r :=
  s_bipush rfl rfl <|
  s_bipush rfl rfl <|
  s_bipush rfl rfl <|
  s_bipush rfl rfl <|
  s_iconst rfl rfl <|
  s_csL rfl rfl rfl rfl rfl rfl c k
theorem b_X12_letters_206 {d : Nat} {I : Nat → Nat → Int} {S : PS} {x0 ys0 : Int} : Ev d mX12_letters (206, [some (vI x0)], [vL ys0], (I, S)) (.inl (some (vL ys0)), (I, S)) :=
  s_lret rfl rfl
theorem b_X12_letters_207 {d : Nat} {r : PO × PM} {I : Nat → Nat → Int} {S : PS} {x0 z : Int} {I1 : Nat → Nat → Int} {S1 : PS} (c : Ca d mX12_spelled [vI 115, vI 104, vI 101, vI 101, vI 116] (I, S) (.inl (some (vL z))) (I1, S1)) (k : Ev (d + 1) mX12_letters (220, [some (vI x0)], [vL z], (I1, S1)) r) : Ev (d + 1) mX12_letters (207, [some (vI x0)], [], (I, S)) r :=
  s_bipush rfl rfl <|
  s_bipush rfl rfl <|
  s_bipush rfl rfl <|
  s_bipush rfl rfl <|
  s_bipush rfl rfl <|
  s_csL rfl rfl rfl rfl rfl rfl c k
theorem b_X12_letters_220 {d : Nat} {I : Nat → Nat → Int} {S : PS} {x0 ys0 : Int} : Ev d mX12_letters (220, [some (vI x0)], [vL ys0], (I, S)) (.inl (some (vL ys0)), (I, S)) :=
  s_lret rfl rfl
theorem b_X12_letters_221 {d : Nat} {r : PO × PM} {I : Nat → Nat → Int} {S : PS} {x0 z : Int} {I1 : Nat → Nat → Int} {S1 : PS} (c : Ca d mX12_spelled [vI 111, vI 102, vI 102, vI 0, vI 0] (I, S) (.inl (some (vL z))) (I1, S1)) (k : Ev (d + 1) mX12_letters (232, [some (vI x0)], [vL z], (I1, S1)) r) : Ev (d + 1) mX12_letters (221, [some (vI x0)], [], (I, S)) r :=
  s_bipush rfl rfl <|
  s_bipush rfl rfl <|
  s_bipush rfl rfl <|
  s_iconst rfl rfl <|
  s_iconst rfl rfl <|
  s_csL rfl rfl rfl rfl rfl rfl c k
theorem b_X12_letters_232 {d : Nat} {I : Nat → Nat → Int} {S : PS} {x0 ys0 : Int} : Ev d mX12_letters (232, [some (vI x0)], [vL ys0], (I, S)) (.inl (some (vL ys0)), (I, S)) :=
  s_lret rfl rfl
theorem b_X12_knownWord_0 {d : Nat} {r : PO × PM} {I : Nat → Nat → Int} {S : PS} {a0 : Nat} (kt : I a0 8 ≠ 1 → Ev d mX12_knownWord (16, [some (vR (some (22, 0, a0))), none], [], (I, S)) r) (kf : I a0 8 = 1 → Ev d mX12_knownWord (8, [some (vR (some (22, 0, a0))), none], [], (I, S)) r) : Ev d mX12_knownWord (0, [some (vR (some (22, 0, a0))), none], [], (I, S)) r :=
  s_aload_n rfl rfl rfl <|
  s_getI rfl rfl rfl <|
  s_iconst rfl rfl <|
  s_icmp_ne 16 rfl rfl kt kf
theorem b_X12_knownWord_8 {d : Nat} {r : PO × PM} {I : Nat → Nat → Int} {S : PS} {a0 : Nat} (kt : I a0 10 ≤ 5 → Ev d mX12_knownWord (18, [some (vR (some (22, 0, a0))), none], [], (I, S)) r) (kf : 5 < I a0 10 → Ev d mX12_knownWord (16, [some (vR (some (22, 0, a0))), none], [], (I, S)) r) : Ev d mX12_knownWord (8, [some (vR (some (22, 0, a0))), none], [], (I, S)) r :=
  s_aload_n rfl rfl rfl <|
  s_getI rfl rfl rfl <|
  s_iconst rfl rfl <|
  s_icmp_le 18 rfl rfl kt kf
theorem b_X12_knownWord_16 {d : Nat} {I : Nat → Nat → Int} {S : PS} {a0 : Nat} : Ev d mX12_knownWord (16, [some (vR (some (22, 0, a0))), none], [], (I, S)) (.inl (some (vI (-1))), (I, S)) :=
  s_iconst rfl rfl <|
  s_ret rfl rfl
theorem b_X12_knownWord_18 {d : Nat} {r : PO × PM} {I : Nat → Nat → Int} {S : PS} {a0 : Nat} (k : Ev d mX12_knownWord (20, [some (vR (some (22, 0, a0))), some (vI 0)], [], (I, S)) r) : Ev d mX12_knownWord (18, [some (vR (some (22, 0, a0))), none], [], (I, S)) r :=
  s_iconst rfl rfl <|
  s_istore_n [some (vR (some (22, 0, a0))), some (vI 0)] rfl rfl <|
  k
theorem b_X12_knownWord_20 {d : Nat} {r : PO × PM} {I : Nat → Nat → Int} {S : PS} {a0 : Nat} {x1 : Int} (kt : 13 ≤ x1 → Ev d mX12_knownWord (46, [some (vR (some (22, 0, a0))), some (vI x1)], [], (I, S)) r) (kf : x1 < 13 → Ev d mX12_knownWord (26, [some (vR (some (22, 0, a0))), some (vI x1)], [], (I, S)) r) : Ev d mX12_knownWord (20, [some (vR (some (22, 0, a0))), some (vI x1)], [], (I, S)) r :=
  s_iload_n rfl rfl rfl <|
  s_bipush rfl rfl <|
  s_icmp_ge 46 rfl rfl kt kf
theorem b_X12_knownWord_26 {d : Nat} {r : PO × PM} {I : Nat → Nat → Int} {S : PS} {a0 : Nat} {x1 z : Int} {I1 : Nat → Nat → Int} {S1 : PS} (c : Ca d mX12_letters [vI x1] (I, S) (.inl (some (vL z))) (I1, S1)) (k : Ev (d + 1) mX12_knownWord (30, [some (vR (some (22, 0, a0))), some (vI x1)], [vL z], (I1, S1)) r) : Ev (d + 1) mX12_knownWord (26, [some (vR (some (22, 0, a0))), some (vI x1)], [], (I, S)) r :=
  s_iload_n rfl rfl rfl <|
  s_csL rfl rfl rfl rfl rfl rfl c k
theorem b_X12_knownWord_30 {d : Nat} {r : PO × PM} {I : Nat → Nat → Int} {S : PS} {a0 : Nat} {x1 ys0 : Int} (kt : p_lcmp ys0 (I a0 12) ≠ 0 → Ev d mX12_knownWord (40, [some (vR (some (22, 0, a0))), some (vI x1)], [], (I, S)) r) (kf : p_lcmp ys0 (I a0 12) = 0 → Ev d mX12_knownWord (38, [some (vR (some (22, 0, a0))), some (vI x1)], [], (I, S)) r) : Ev d mX12_knownWord (30, [some (vR (some (22, 0, a0))), some (vI x1)], [vL ys0], (I, S)) r :=
  s_aload_n rfl rfl rfl <|
  s_getL rfl rfl rfl <|
  s_lcmp rfl <|
  s_if_ne 40 rfl rfl kt kf
theorem b_X12_knownWord_38 {d : Nat} {I : Nat → Nat → Int} {S : PS} {a0 : Nat} {x1 : Int} : Ev d mX12_knownWord (38, [some (vR (some (22, 0, a0))), some (vI x1)], [], (I, S)) (.inl (some (vI x1)), (I, S)) :=
  s_iload_n rfl rfl rfl <|
  s_ret rfl rfl
theorem b_X12_knownWord_40 {d : Nat} {r : PO × PM} {I : Nat → Nat → Int} {S : PS} {a0 : Nat} {x1 : Int} (ho1 : -2147483648 ≤ x1 + 1 ∧ x1 + 1 ≤ 2147483647) (k : Ev d mX12_knownWord (20, [some (vR (some (22, 0, a0))), some (vI (x1 + 1))], [], (I, S)) r) : Ev d mX12_knownWord (40, [some (vR (some (22, 0, a0))), some (vI x1)], [], (I, S)) r :=
  s_iincp [some (vR (some (22, 0, a0))), some (vI (x1 + 1))] rfl rfl ho1 rfl <|
  s_goto 20 rfl rfl k
theorem b_X12_knownWord_46 {d : Nat} {I : Nat → Nat → Int} {S : PS} {a0 : Nat} {x1 : Int} : Ev d mX12_knownWord (46, [some (vR (some (22, 0, a0))), some (vI x1)], [], (I, S)) (.inl (some (vI (-1))), (I, S)) :=
  s_iconst rfl rfl <|
  s_ret rfl rfl
theorem b_X12_wrong_0 {d : Nat} {r : PO × PM} {I : Nat → Nat → Int} {S : PS} {a0 : Nat} {x1 : Int} (kt : I a0 3 = 0 → Ev d mX12_wrong (8, [some (vR (some (22, 0, a0))), some (vI x1)], [], (I, S)) r) (kf : I a0 3 ≠ 0 → Ev d mX12_wrong (7, [some (vR (some (22, 0, a0))), some (vI x1)], [], (I, S)) r) : Ev d mX12_wrong (0, [some (vR (some (22, 0, a0))), some (vI x1)], [], (I, S)) r :=
  s_aload_n rfl rfl rfl <|
  s_getI rfl rfl rfl <|
  s_if_eq 8 rfl rfl kt kf
theorem b_X12_wrong_7 {d : Nat} {I : Nat → Nat → Int} {S : PS} {a0 : Nat} {x1 : Int} : Ev d mX12_wrong (7, [some (vR (some (22, 0, a0))), some (vI x1)], [], (I, S)) (.inl none, (I, S)) :=
  s_vret rfl rfl
theorem b_X12_wrong_8 {d : Nat} {I : Nat → Nat → Int} {S : PS} {a0 : Nat} {x1 : Int} : Ev d mX12_wrong (8, [some (vR (some (22, 0, a0))), some (vI x1)], [], (I, S)) (.inl none, ((up2 (up2 I a0 3 x1) a0 4 ((up2 I a0 3 x1) a0 9)), S)) :=
  s_aload_n rfl rfl rfl <|
  s_iload_n rfl rfl rfl <|
  s_putI rfl rfl rfl <|
  s_aload_n rfl rfl rfl <|
  s_aload_n rfl rfl rfl <|
  s_getI rfl rfl rfl <|
  s_putI rfl rfl rfl <|
  s_vret rfl rfl
theorem b_X12_isGood_0 {d : Nat} {r : PO × PM} {I : Nat → Nat → Int} {S : PS} {a0 : Nat} (kt : I a0 3 ≠ 0 → Ev d mX12_isGood (11, [some (vR (some (22, 0, a0)))], [], (I, S)) r) (kf : I a0 3 = 0 → Ev d mX12_isGood (7, [some (vR (some (22, 0, a0)))], [], (I, S)) r) : Ev d mX12_isGood (0, [some (vR (some (22, 0, a0)))], [], (I, S)) r :=
  s_aload_n rfl rfl rfl <|
  s_getI rfl rfl rfl <|
  s_if_ne 11 rfl rfl kt kf
theorem b_X12_isGood_7 {d : Nat} {r : PO × PM} {I : Nat → Nat → Int} {S : PS} {a0 : Nat} (k : Ev d mX12_isGood (12, [some (vR (some (22, 0, a0)))], [vI 1], (I, S)) r) : Ev d mX12_isGood (7, [some (vR (some (22, 0, a0)))], [], (I, S)) r :=
  s_iconst rfl rfl <|
  s_goto 12 rfl rfl k
theorem b_X12_isGood_11 {d : Nat} {r : PO × PM} {I : Nat → Nat → Int} {S : PS} {a0 : Nat} (k : Ev d mX12_isGood (12, [some (vR (some (22, 0, a0)))], [vI 0], (I, S)) r) : Ev d mX12_isGood (11, [some (vR (some (22, 0, a0)))], [], (I, S)) r :=
  s_iconst rfl rfl <|
  k
theorem b_X12_isGood_12 {d : Nat} {I : Nat → Nat → Int} {S : PS} {a0 : Nat} {xs0 : Int} (hb1 : xs0 = 0 ∨ xs0 = 1) : Ev d mX12_isGood (12, [some (vR (some (22, 0, a0)))], [vI xs0], (I, S)) (.inl (some (vI xs0)), (I, S)) :=
  s_retz rfl rfl hb1
theorem b_X12_need_0 {d : Nat} {r : PO × PM} {I : Nat → Nat → Int} {S : PS} {a0 : Nat} {x1 z : Int} {I1 : Nat → Nat → Int} {S1 : PS} (c : Ca d mX12_isGood [vR (some (22, 0, a0))] (I, S) (.inl (some (vI z))) (I1, S1)) (k : Ev (d + 1) mX12_need (4, [some (vR (some (22, 0, a0))), some (vI x1)], [vI z], (I1, S1)) r) : Ev (d + 1) mX12_need (0, [some (vR (some (22, 0, a0))), some (vI x1)], [], (I, S)) r :=
  s_aload_n rfl rfl rfl <|
  s_cvI rfl rfl rfl rfl rfl c k
theorem b_X12_need_4 {d : Nat} {r : PO × PM} {I : Nat → Nat → Int} {S : PS} {a0 : Nat} {x1 xs0 : Int} (kt : xs0 ≠ 0 → Ev d mX12_need (8, [some (vR (some (22, 0, a0))), some (vI x1)], [], (I, S)) r) (kf : xs0 = 0 → Ev d mX12_need (7, [some (vR (some (22, 0, a0))), some (vI x1)], [], (I, S)) r) : Ev d mX12_need (4, [some (vR (some (22, 0, a0))), some (vI x1)], [vI xs0], (I, S)) r :=
  s_if_ne 8 rfl rfl kt kf
theorem b_X12_need_7 {d : Nat} {I : Nat → Nat → Int} {S : PS} {a0 : Nat} {x1 : Int} : Ev d mX12_need (7, [some (vR (some (22, 0, a0))), some (vI x1)], [], (I, S)) (.inl none, (I, S)) :=
  s_vret rfl rfl
theorem b_X12_need_8 {d : Nat} {r : PO × PM} {I : Nat → Nat → Int} {S : PS} {a0 : Nat} {x1 : Int} (kt : x1 = 0 → Ev d mX12_need (19, [some (vR (some (22, 0, a0))), some (vI x1)], [], (I, S)) r) (kf : x1 ≠ 0 → Ev d mX12_need (12, [some (vR (some (22, 0, a0))), some (vI x1)], [], (I, S)) r) : Ev d mX12_need (8, [some (vR (some (22, 0, a0))), some (vI x1)], [], (I, S)) r :=
  s_iload_n rfl rfl rfl <|
  s_if_eq 19 rfl rfl kt kf
theorem b_X12_need_12 {d : Nat} {r : PO × PM} {I : Nat → Nat → Int} {S : PS} {a0 : Nat} {x1 : Int} {I1 : Nat → Nat → Int} {S1 : PS} (c : Ca d mX12_goes [vR (some (22, 0, a0))] (I, S) (.inl none) (I1, S1)) (k : Ev (d + 1) mX12_need (16, [some (vR (some (22, 0, a0))), some (vI x1)], [], (I1, S1)) r) : Ev (d + 1) mX12_need (12, [some (vR (some (22, 0, a0))), some (vI x1)], [], (I, S)) r :=
  s_aload_n rfl rfl rfl <|
  s_cvV rfl rfl rfl rfl rfl c k
theorem b_X12_need_16 {d : Nat} {r : PO × PM} {I : Nat → Nat → Int} {S : PS} {a0 : Nat} {x1 : Int} (k : Ev d mX12_need (24, [some (vR (some (22, 0, a0))), some (vI x1)], [], (I, S)) r) : Ev d mX12_need (16, [some (vR (some (22, 0, a0))), some (vI x1)], [], (I, S)) r :=
  s_goto 24 rfl rfl k
theorem b_X12_need_19 {d : Nat} {r : PO × PM} {I : Nat → Nat → Int} {S : PS} {a0 : Nat} {x1 : Int} {I1 : Nat → Nat → Int} {S1 : PS} (c : Ca d mX12_wrong [vR (some (22, 0, a0)), vI 1] (I, S) (.inl none) (I1, S1)) (k : Ev (d + 1) mX12_need (24, [some (vR (some (22, 0, a0))), some (vI x1)], [], (I1, S1)) r) : Ev (d + 1) mX12_need (19, [some (vR (some (22, 0, a0))), some (vI x1)], [], (I, S)) r :=
  s_aload_n rfl rfl rfl <|
  s_iconst rfl rfl <|
  s_cvV rfl rfl rfl rfl rfl c k
theorem b_X12_need_24 {d : Nat} {I : Nat → Nat → Int} {S : PS} {a0 : Nat} {x1 : Int} : Ev d mX12_need (24, [some (vR (some (22, 0, a0))), some (vI x1)], [], (I, S)) (.inl none, (I, S)) :=
  s_vret rfl rfl
theorem b_X12_numberHere_0 {d : Nat} {r : PO × PM} {I : Nat → Nat → Int} {S : PS} {a0 : Nat} {x1 x2 z : Int} {I1 : Nat → Nat → Int} {S1 : PS} (c : Ca d mX12_isGood [vR (some (22, 0, a0))] (I, S) (.inl (some (vI z))) (I1, S1)) (k : Ev (d + 1) mX12_numberHere (4, [some (vR (some (22, 0, a0))), some (vI x1), some (vI x2)], [vI z], (I1, S1)) r) : Ev (d + 1) mX12_numberHere (0, [some (vR (some (22, 0, a0))), some (vI x1), some (vI x2)], [], (I, S)) r :=
  s_aload_n rfl rfl rfl <|
  s_cvI rfl rfl rfl rfl rfl c k
theorem b_X12_numberHere_4 {d : Nat} {r : PO × PM} {I : Nat → Nat → Int} {S : PS} {a0 : Nat} {x1 x2 xs0 : Int} (kt : xs0 ≠ 0 → Ev d mX12_numberHere (9, [some (vR (some (22, 0, a0))), some (vI x1), some (vI x2)], [], (I, S)) r) (kf : xs0 = 0 → Ev d mX12_numberHere (7, [some (vR (some (22, 0, a0))), some (vI x1), some (vI x2)], [], (I, S)) r) : Ev d mX12_numberHere (4, [some (vR (some (22, 0, a0))), some (vI x1), some (vI x2)], [vI xs0], (I, S)) r :=
  s_if_ne 9 rfl rfl kt kf
theorem b_X12_numberHere_7 {d : Nat} {I : Nat → Nat → Int} {S : PS} {a0 : Nat} {x1 x2 : Int} : Ev d mX12_numberHere (7, [some (vR (some (22, 0, a0))), some (vI x1), some (vI x2)], [], (I, S)) (.inl (some (vI 0)), (I, S)) :=
  s_iconst rfl rfl <|
  s_ret rfl rfl
theorem b_X12_numberHere_9 {d : Nat} {r : PO × PM} {I : Nat → Nat → Int} {S : PS} {a0 : Nat} {x1 x2 : Int} (kt : I a0 8 = 2 → Ev d mX12_numberHere (25, [some (vR (some (22, 0, a0))), some (vI x1), some (vI x2)], [], (I, S)) r) (kf : I a0 8 ≠ 2 → Ev d mX12_numberHere (17, [some (vR (some (22, 0, a0))), some (vI x1), some (vI x2)], [], (I, S)) r) : Ev d mX12_numberHere (9, [some (vR (some (22, 0, a0))), some (vI x1), some (vI x2)], [], (I, S)) r :=
  s_aload_n rfl rfl rfl <|
  s_getI rfl rfl rfl <|
  s_iconst rfl rfl <|
  s_icmp_eq 25 rfl rfl kt kf
theorem b_X12_numberHere_17 {d : Nat} {r : PO × PM} {I : Nat → Nat → Int} {S : PS} {a0 : Nat} {x1 x2 : Int} {I1 : Nat → Nat → Int} {S1 : PS} (c : Ca d mX12_wrong [vR (some (22, 0, a0)), vI 1] (I, S) (.inl none) (I1, S1)) (k : Ev (d + 1) mX12_numberHere (22, [some (vR (some (22, 0, a0))), some (vI x1), some (vI x2)], [], (I1, S1)) r) : Ev (d + 1) mX12_numberHere (17, [some (vR (some (22, 0, a0))), some (vI x1), some (vI x2)], [], (I, S)) r :=
  s_aload_n rfl rfl rfl <|
  s_iconst rfl rfl <|
  s_cvV rfl rfl rfl rfl rfl c k
theorem b_X12_numberHere_22 {d : Nat} {r : PO × PM} {I : Nat → Nat → Int} {S : PS} {a0 : Nat} {x1 x2 : Int} (k : Ev d mX12_numberHere (54, [some (vR (some (22, 0, a0))), some (vI x1), some (vI x2)], [], (I, S)) r) : Ev d mX12_numberHere (22, [some (vR (some (22, 0, a0))), some (vI x1), some (vI x2)], [], (I, S)) r :=
  s_goto 54 rfl rfl k
theorem b_X12_numberHere_25 {d : Nat} {r : PO × PM} {I : Nat → Nat → Int} {S : PS} {a0 : Nat} {x1 x2 : Int} (kt : 4 < I a0 10 → Ev d mX12_numberHere (49, [some (vR (some (22, 0, a0))), some (vI x1), some (vI x2)], [], (I, S)) r) (kf : I a0 10 ≤ 4 → Ev d mX12_numberHere (33, [some (vR (some (22, 0, a0))), some (vI x1), some (vI x2)], [], (I, S)) r) : Ev d mX12_numberHere (25, [some (vR (some (22, 0, a0))), some (vI x1), some (vI x2)], [], (I, S)) r :=
  s_aload_n rfl rfl rfl <|
  s_getI rfl rfl rfl <|
  s_iconst rfl rfl <|
  s_icmp_gt 49 rfl rfl kt kf
theorem b_X12_numberHere_33 {d : Nat} {r : PO × PM} {I : Nat → Nat → Int} {S : PS} {a0 : Nat} {x1 x2 : Int} (kt : I a0 11 < x1 → Ev d mX12_numberHere (49, [some (vR (some (22, 0, a0))), some (vI x1), some (vI x2)], [], (I, S)) r) (kf : x1 ≤ I a0 11 → Ev d mX12_numberHere (41, [some (vR (some (22, 0, a0))), some (vI x1), some (vI x2)], [], (I, S)) r) : Ev d mX12_numberHere (33, [some (vR (some (22, 0, a0))), some (vI x1), some (vI x2)], [], (I, S)) r :=
  s_aload_n rfl rfl rfl <|
  s_getI rfl rfl rfl <|
  s_iload_n rfl rfl rfl <|
  s_icmp_lt 49 rfl rfl kt kf
theorem b_X12_numberHere_41 {d : Nat} {r : PO × PM} {I : Nat → Nat → Int} {S : PS} {a0 : Nat} {x1 x2 : Int} (kt : I a0 11 ≤ x2 → Ev d mX12_numberHere (54, [some (vR (some (22, 0, a0))), some (vI x1), some (vI x2)], [], (I, S)) r) (kf : x2 < I a0 11 → Ev d mX12_numberHere (49, [some (vR (some (22, 0, a0))), some (vI x1), some (vI x2)], [], (I, S)) r) : Ev d mX12_numberHere (41, [some (vR (some (22, 0, a0))), some (vI x1), some (vI x2)], [], (I, S)) r :=
  s_aload_n rfl rfl rfl <|
  s_getI rfl rfl rfl <|
  s_iload_n rfl rfl rfl <|
  s_icmp_le 54 rfl rfl kt kf
theorem b_X12_numberHere_49 {d : Nat} {r : PO × PM} {I : Nat → Nat → Int} {S : PS} {a0 : Nat} {x1 x2 : Int} {I1 : Nat → Nat → Int} {S1 : PS} (c : Ca d mX12_wrong [vR (some (22, 0, a0)), vI 2] (I, S) (.inl none) (I1, S1)) (k : Ev (d + 1) mX12_numberHere (54, [some (vR (some (22, 0, a0))), some (vI x1), some (vI x2)], [], (I1, S1)) r) : Ev (d + 1) mX12_numberHere (49, [some (vR (some (22, 0, a0))), some (vI x1), some (vI x2)], [], (I, S)) r :=
  s_aload_n rfl rfl rfl <|
  s_iconst rfl rfl <|
  s_cvV rfl rfl rfl rfl rfl c k
theorem b_X12_numberHere_54 {d : Nat} {I : Nat → Nat → Int} {S : PS} {a0 : Nat} {x1 x2 : Int} : Ev d mX12_numberHere (54, [some (vR (some (22, 0, a0))), some (vI x1), some (vI x2)], [], (I, S)) (.inl (some (vI (I a0 11))), (I, S)) :=
  s_aload_n rfl rfl rfl <|
  s_getI rfl rfl rfl <|
  s_ret rfl rfl
theorem b_X12_number_0 {d : Nat} {r : PO × PM} {I : Nat → Nat → Int} {S : PS} {a0 : Nat} {x1 x2 z : Int} {I1 : Nat → Nat → Int} {S1 : PS} (c : Ca d mX12_numberHere [vR (some (22, 0, a0)), vI x1, vI x2] (I, S) (.inl (some (vI z))) (I1, S1)) (k : Ev (d + 1) mX12_number (6, [some (vR (some (22, 0, a0))), some (vI x1), some (vI x2), none], [vI z], (I1, S1)) r) : Ev (d + 1) mX12_number (0, [some (vR (some (22, 0, a0))), some (vI x1), some (vI x2), none], [], (I, S)) r :=
  s_aload_n rfl rfl rfl <|
  s_iload_n rfl rfl rfl <|
  s_iload_n rfl rfl rfl <|
  s_cvI rfl rfl rfl rfl rfl c k
theorem b_X12_number_6 {d : Nat} {r : PO × PM} {I : Nat → Nat → Int} {S : PS} {a0 : Nat} {x1 x2 xs0 z : Int} {I1 : Nat → Nat → Int} {S1 : PS} (c : Ca d mX12_isGood [vR (some (22, 0, a0))] (I, S) (.inl (some (vI z))) (I1, S1)) (k : Ev (d + 1) mX12_number (11, [some (vR (some (22, 0, a0))), some (vI x1), some (vI x2), some (vI xs0)], [vI z], (I1, S1)) r) : Ev (d + 1) mX12_number (6, [some (vR (some (22, 0, a0))), some (vI x1), some (vI x2), none], [vI xs0], (I, S)) r :=
  s_istore_n [some (vR (some (22, 0, a0))), some (vI x1), some (vI x2), some (vI xs0)] rfl rfl <|
  s_aload_n rfl rfl rfl <|
  s_cvI rfl rfl rfl rfl rfl c k
theorem b_X12_number_11 {d : Nat} {r : PO × PM} {I : Nat → Nat → Int} {S : PS} {a0 : Nat} {x1 x2 x3 xs0 : Int} (kt : xs0 = 0 → Ev d mX12_number (18, [some (vR (some (22, 0, a0))), some (vI x1), some (vI x2), some (vI x3)], [], (I, S)) r) (kf : xs0 ≠ 0 → Ev d mX12_number (14, [some (vR (some (22, 0, a0))), some (vI x1), some (vI x2), some (vI x3)], [], (I, S)) r) : Ev d mX12_number (11, [some (vR (some (22, 0, a0))), some (vI x1), some (vI x2), some (vI x3)], [vI xs0], (I, S)) r :=
  s_if_eq 18 rfl rfl kt kf
theorem b_X12_number_14 {d : Nat} {r : PO × PM} {I : Nat → Nat → Int} {S : PS} {a0 : Nat} {x1 x2 x3 : Int} {I1 : Nat → Nat → Int} {S1 : PS} (c : Ca d mX12_goes [vR (some (22, 0, a0))] (I, S) (.inl none) (I1, S1)) (k : Ev (d + 1) mX12_number (18, [some (vR (some (22, 0, a0))), some (vI x1), some (vI x2), some (vI x3)], [], (I1, S1)) r) : Ev (d + 1) mX12_number (14, [some (vR (some (22, 0, a0))), some (vI x1), some (vI x2), some (vI x3)], [], (I, S)) r :=
  s_aload_n rfl rfl rfl <|
  s_cvV rfl rfl rfl rfl rfl c k
theorem b_X12_number_18 {d : Nat} {I : Nat → Nat → Int} {S : PS} {a0 : Nat} {x1 x2 x3 : Int} : Ev d mX12_number (18, [some (vR (some (22, 0, a0))), some (vI x1), some (vI x2), some (vI x3)], [], (I, S)) (.inl (some (vI x3)), (I, S)) :=
  s_iload_n rfl rfl rfl <|
  s_ret rfl rfl
theorem b_X12_begins_0 {d : Nat} {r : PO × PM} {I : Nat → Nat → Int} {S : PS} {a0 : Nat} {x1 x2 : Int} (kt : x1 = 0 → Ev d mX12_begins (9, [some (vR (some (22, 0, a0))), some (vI x1), some (vI x2)], [], (I, S)) r) (kf : x1 ≠ 0 → Ev d mX12_begins (4, [some (vR (some (22, 0, a0))), some (vI x1), some (vI x2)], [], (I, S)) r) : Ev d mX12_begins (0, [some (vR (some (22, 0, a0))), some (vI x1), some (vI x2)], [], (I, S)) r :=
  s_iload_n rfl rfl rfl <|
  s_if_eq 9 rfl rfl kt kf
theorem b_X12_begins_4 {d : Nat} {r : PO × PM} {I : Nat → Nat → Int} {S : PS} {a0 : Nat} {x1 x2 : Int} {I1 : Nat → Nat → Int} {S1 : PS} (c : Ca d mX12_wrong [vR (some (22, 0, a0)), vI 2] (I, S) (.inl none) (I1, S1)) (k : Ev (d + 1) mX12_begins (9, [some (vR (some (22, 0, a0))), some (vI x1), some (vI x2)], [], (I1, S1)) r) : Ev (d + 1) mX12_begins (4, [some (vR (some (22, 0, a0))), some (vI x1), some (vI x2)], [], (I, S)) r :=
  s_aload_n rfl rfl rfl <|
  s_iconst rfl rfl <|
  s_cvV rfl rfl rfl rfl rfl c k
theorem b_X12_begins_9 {d : Nat} {r : PO × PM} {I : Nat → Nat → Int} {S : PS} {a0 : Nat} {x1 x2 : Int} (kt : x2 = 0 → Ev d mX12_begins (18, [some (vR (some (22, 0, a0))), some (vI x1), some (vI x2)], [], (I, S)) r) (kf : x2 ≠ 0 → Ev d mX12_begins (13, [some (vR (some (22, 0, a0))), some (vI x1), some (vI x2)], [], (I, S)) r) : Ev d mX12_begins (9, [some (vR (some (22, 0, a0))), some (vI x1), some (vI x2)], [], (I, S)) r :=
  s_iload_n rfl rfl rfl <|
  s_if_eq 18 rfl rfl kt kf
theorem b_X12_begins_13 {d : Nat} {r : PO × PM} {I : Nat → Nat → Int} {S : PS} {a0 : Nat} {x1 x2 : Int} {I1 : Nat → Nat → Int} {S1 : PS} (c : Ca d mX12_wrong [vR (some (22, 0, a0)), vI 3] (I, S) (.inl none) (I1, S1)) (k : Ev (d + 1) mX12_begins (18, [some (vR (some (22, 0, a0))), some (vI x1), some (vI x2)], [], (I1, S1)) r) : Ev (d + 1) mX12_begins (13, [some (vR (some (22, 0, a0))), some (vI x1), some (vI x2)], [], (I, S)) r :=
  s_aload_n rfl rfl rfl <|
  s_iconst rfl rfl <|
  s_cvV rfl rfl rfl rfl rfl c k
theorem b_X12_begins_18 {d : Nat} {r : PO × PM} {I : Nat → Nat → Int} {S : PS} {a0 : Nat} {x1 x2 z : Int} {I1 : Nat → Nat → Int} {S1 : PS} (c : Ca d mX12_isGood [vR (some (22, 0, a0))] (I, S) (.inl (some (vI z))) (I1, S1)) (k : Ev (d + 1) mX12_begins (22, [some (vR (some (22, 0, a0))), some (vI x1), some (vI x2)], [vI z], (I1, S1)) r) : Ev (d + 1) mX12_begins (18, [some (vR (some (22, 0, a0))), some (vI x1), some (vI x2)], [], (I, S)) r :=
  s_aload_n rfl rfl rfl <|
  s_cvI rfl rfl rfl rfl rfl c k
theorem b_X12_begins_22 {d : Nat} {r : PO × PM} {I : Nat → Nat → Int} {S : PS} {a0 : Nat} {x1 x2 xs0 : Int} (kt : xs0 ≠ 0 → Ev d mX12_begins (27, [some (vR (some (22, 0, a0))), some (vI x1), some (vI x2)], [], (I, S)) r) (kf : xs0 = 0 → Ev d mX12_begins (25, [some (vR (some (22, 0, a0))), some (vI x1), some (vI x2)], [], (I, S)) r) : Ev d mX12_begins (22, [some (vR (some (22, 0, a0))), some (vI x1), some (vI x2)], [vI xs0], (I, S)) r :=
  s_if_ne 27 rfl rfl kt kf
theorem b_X12_begins_25 {d : Nat} {I : Nat → Nat → Int} {S : PS} {a0 : Nat} {x1 x2 : Int} : Ev d mX12_begins (25, [some (vR (some (22, 0, a0))), some (vI x1), some (vI x2)], [], (I, S)) (.inl (some (vI 0)), (I, S)) :=
  s_iconst rfl rfl <|
  s_ret rfl rfl
theorem b_X12_begins_27 {d : Nat} {r : PO × PM} {I : Nat → Nat → Int} {S : PS} {a0 : Nat} {x1 x2 : Int} {I1 : Nat → Nat → Int} {S1 : PS} (c : Ca d mX12_goes [vR (some (22, 0, a0))] (I, S) (.inl none) (I1, S1)) (k : Ev (d + 1) mX12_begins (31, [some (vR (some (22, 0, a0))), some (vI x1), some (vI x2)], [], (I1, S1)) r) : Ev (d + 1) mX12_begins (27, [some (vR (some (22, 0, a0))), some (vI x1), some (vI x2)], [], (I, S)) r :=
  s_aload_n rfl rfl rfl <|
  s_cvV rfl rfl rfl rfl rfl c k
theorem b_X12_begins_31 {d : Nat} {I : Nat → Nat → Int} {S : PS} {a0 : Nat} {x1 x2 : Int} : Ev d mX12_begins (31, [some (vR (some (22, 0, a0))), some (vI x1), some (vI x2)], [], (I, S)) (.inl (some (vI 1)), (I, S)) :=
  s_iconst rfl rfl <|
  s_ret rfl rfl
theorem b_X12_outer_0 {d : Nat} {r : PO × PM} {I : Nat → Nat → Int} {S : PS} {n0 a0 : Nat} {x1 x2 : Int} (ho1 : -2147483648 ≤ 20 * x1 ∧ 20 * x1 ≤ 2147483647) (ho2 : -2147483648 ≤ (20 * x1) + 1 ∧ (20 * x1) + 1 ≤ 2147483647) (hi3 : 0 ≤ (20 * x1) + 1 ∧ (20 * x1) + 1 < (n0 : Nat)) (kt : x2 ≠ I a0 ((20 * x1) + 1).toNat → Ev d mX12_outer (23, [some (vR (some (0, n0, a0))), some (vI x1), some (vI x2), some (vI (I a0 ((20 * x1) + 1).toNat)), none, none], [], (I, S)) r) (kf : x2 = I a0 ((20 * x1) + 1).toNat → Ev d mX12_outer (14, [some (vR (some (0, n0, a0))), some (vI x1), some (vI x2), some (vI (I a0 ((20 * x1) + 1).toNat)), none, none], [], (I, S)) r) : Ev d mX12_outer (0, [some (vR (some (0, n0, a0))), some (vI x1), some (vI x2), none, none, none], [], (I, S)) r :=
  s_aload_n rfl rfl rfl <|
  s_bipush rfl rfl <|
  s_iload_n rfl rfl rfl <|
  s_imulp rfl ho1 <|
  s_iconst rfl rfl <|
  s_iaddp rfl ho2 <|
  s_iald rfl rfl hi3 <|
  s_istore_n [some (vR (some (0, n0, a0))), some (vI x1), some (vI x2), some (vI (I a0 ((20 * x1) + 1).toNat)), none, none] rfl rfl <|
  s_iload_n rfl rfl rfl <|
  s_iload_n rfl rfl rfl <|
  s_icmp_ne 23 rfl rfl kt kf
theorem b_X12_outer_14 {d : Nat} {I : Nat → Nat → Int} {S : PS} {n0 a0 : Nat} {x1 x2 x3 : Int} (ho1 : -2147483648 ≤ 20 * x1 ∧ 20 * x1 ≤ 2147483647) (hi2 : 0 ≤ 20 * x1 ∧ 20 * x1 < (n0 : Nat)) (ho3 : -2147483648 ≤ (I a0 (20 * x1).toNat) - x3 ∧ (I a0 (20 * x1).toNat) - x3 ≤ 2147483647) : Ev d mX12_outer (14, [some (vR (some (0, n0, a0))), some (vI x1), some (vI x2), some (vI x3), none, none], [], (I, S)) (.inl (some (vI ((I a0 (20 * x1).toNat) - x3))), (I, S)) :=
  s_aload_n rfl rfl rfl <|
  s_bipush rfl rfl <|
  s_iload_n rfl rfl rfl <|
  s_imulp rfl ho1 <|
  s_iald rfl rfl hi2 <|
  s_iload_n rfl rfl rfl <|
  s_isubp rfl ho3 <|
  s_ret rfl rfl
theorem b_X12_outer_23 {d : Nat} {r : PO × PM} {I : Nat → Nat → Int} {S : PS} {n0 a0 : Nat} {x1 x2 x3 : Int} (ho1 : -2147483648 ≤ 20 * x1 ∧ 20 * x1 ≤ 2147483647) (hi2 : 0 ≤ 20 * x1 ∧ 20 * x1 < (n0 : Nat)) (kt : x3 ≠ I a0 (20 * x1).toNat → Ev d mX12_outer (37, [some (vR (some (0, n0, a0))), some (vI x1), some (vI x2), some (vI x3), none, none], [], (I, S)) r) (kf : x3 = I a0 (20 * x1).toNat → Ev d mX12_outer (33, [some (vR (some (0, n0, a0))), some (vI x1), some (vI x2), some (vI x3), none, none], [], (I, S)) r) : Ev d mX12_outer (23, [some (vR (some (0, n0, a0))), some (vI x1), some (vI x2), some (vI x3), none, none], [], (I, S)) r :=
  s_iload_n rfl rfl rfl <|
  s_aload_n rfl rfl rfl <|
  s_bipush rfl rfl <|
  s_iload_n rfl rfl rfl <|
  s_imulp rfl ho1 <|
  s_iald rfl rfl hi2 <|
  s_icmp_ne 37 rfl rfl kt kf
theorem b_X12_outer_33 {d : Nat} {r : PO × PM} {I : Nat → Nat → Int} {S : PS} {n0 a0 : Nat} {x1 x2 x3 : Int} (k : Ev d mX12_outer (38, [some (vR (some (0, n0, a0))), some (vI x1), some (vI x2), some (vI x3), none, none], [vI 1], (I, S)) r) : Ev d mX12_outer (33, [some (vR (some (0, n0, a0))), some (vI x1), some (vI x2), some (vI x3), none, none], [], (I, S)) r :=
  s_iconst rfl rfl <|
  s_goto 38 rfl rfl k
theorem b_X12_outer_37 {d : Nat} {r : PO × PM} {I : Nat → Nat → Int} {S : PS} {n0 a0 : Nat} {x1 x2 x3 : Int} (k : Ev d mX12_outer (38, [some (vR (some (0, n0, a0))), some (vI x1), some (vI x2), some (vI x3), none, none], [vI 0], (I, S)) r) : Ev d mX12_outer (37, [some (vR (some (0, n0, a0))), some (vI x1), some (vI x2), some (vI x3), none, none], [], (I, S)) r :=
  s_iconst rfl rfl <|
  k
theorem b_X12_outer_38 {d : Nat} {r : PO × PM} {I : Nat → Nat → Int} {S : PS} {n0 a0 : Nat} {x1 x2 x3 xs0 : Int} (ho1 : -2147483648 ≤ 20 * x1 ∧ 20 * x1 ≤ 2147483647) (ho2 : -2147483648 ≤ (20 * x1) + 2 ∧ (20 * x1) + 2 ≤ 2147483647) (ho3 : -2147483648 ≤ ((20 * x1) + 2) + x2 ∧ ((20 * x1) + 2) + x2 ≤ 2147483647) (hi4 : 0 ≤ ((20 * x1) + 2) + x2 ∧ ((20 * x1) + 2) + x2 < (n0 : Nat)) (ho5 : -2147483648 ≤ (I a0 (((20 * x1) + 2) + x2).toNat) - 1 ∧ (I a0 (((20 * x1) + 2) + x2).toNat) - 1 ≤ 2147483647) (kt : 0 < x2 → Ev d mX12_outer (65, [some (vR (some (0, n0, a0))), some (vI x1), some (vI x2), some (vI x3), some (vI xs0), some (vI ((I a0 (((20 * x1) + 2) + x2).toNat) - 1))], [vI ((I a0 (((20 * x1) + 2) + x2).toNat) - 1)], (I, S)) r) (kf : x2 ≤ 0 → Ev d mX12_outer (60, [some (vR (some (0, n0, a0))), some (vI x1), some (vI x2), some (vI x3), some (vI xs0), some (vI ((I a0 (((20 * x1) + 2) + x2).toNat) - 1))], [vI ((I a0 (((20 * x1) + 2) + x2).toNat) - 1)], (I, S)) r) : Ev d mX12_outer (38, [some (vR (some (0, n0, a0))), some (vI x1), some (vI x2), some (vI x3), none, none], [vI xs0], (I, S)) r :=
  s_istore [some (vR (some (0, n0, a0))), some (vI x1), some (vI x2), some (vI x3), some (vI xs0), none] rfl rfl <|
  s_aload_n rfl rfl rfl <|
  s_bipush rfl rfl <|
  s_iload_n rfl rfl rfl <|
  s_imulp rfl ho1 <|
  s_iconst rfl rfl <|
  s_iaddp rfl ho2 <|
  s_iload_n rfl rfl rfl <|
  s_iaddp rfl ho3 <|
  s_iald rfl rfl hi4 <|
  s_iconst rfl rfl <|
  s_isubp rfl ho5 <|
  s_istore [some (vR (some (0, n0, a0))), some (vI x1), some (vI x2), some (vI x3), some (vI xs0), some (vI ((I a0 (((20 * x1) + 2) + x2).toNat) - 1))] rfl rfl <|
  s_iload rfl rfl rfl <|
  s_iload_n rfl rfl rfl <|
  s_if_gt 65 rfl rfl kt kf
theorem b_X12_outer_60 {d : Nat} {r : PO × PM} {I : Nat → Nat → Int} {S : PS} {n0 a0 : Nat} {x1 x2 x3 x4 x5 xs0 : Int} (kt : x4 = 0 → Ev d mX12_outer (69, [some (vR (some (0, n0, a0))), some (vI x1), some (vI x2), some (vI x3), some (vI x4), some (vI x5)], [vI xs0], (I, S)) r) (kf : x4 ≠ 0 → Ev d mX12_outer (65, [some (vR (some (0, n0, a0))), some (vI x1), some (vI x2), some (vI x3), some (vI x4), some (vI x5)], [vI xs0], (I, S)) r) : Ev d mX12_outer (60, [some (vR (some (0, n0, a0))), some (vI x1), some (vI x2), some (vI x3), some (vI x4), some (vI x5)], [vI xs0], (I, S)) r :=
  s_iload rfl rfl rfl <|
  s_if_eq 69 rfl rfl kt kf
theorem b_X12_outer_65 {d : Nat} {r : PO × PM} {I : Nat → Nat → Int} {S : PS} {n0 a0 : Nat} {x1 x2 x3 x4 x5 xs0 : Int} (k : Ev d mX12_outer (70, [some (vR (some (0, n0, a0))), some (vI x1), some (vI x2), some (vI x3), some (vI x4), some (vI x5)], [vI 1, vI xs0], (I, S)) r) : Ev d mX12_outer (65, [some (vR (some (0, n0, a0))), some (vI x1), some (vI x2), some (vI x3), some (vI x4), some (vI x5)], [vI xs0], (I, S)) r :=
  s_iconst rfl rfl <|
  s_goto 70 rfl rfl k
theorem b_X12_outer_69 {d : Nat} {r : PO × PM} {I : Nat → Nat → Int} {S : PS} {n0 a0 : Nat} {x1 x2 x3 x4 x5 xs0 : Int} (k : Ev d mX12_outer (70, [some (vR (some (0, n0, a0))), some (vI x1), some (vI x2), some (vI x3), some (vI x4), some (vI x5)], [vI 0, vI xs0], (I, S)) r) : Ev d mX12_outer (69, [some (vR (some (0, n0, a0))), some (vI x1), some (vI x2), some (vI x3), some (vI x4), some (vI x5)], [vI xs0], (I, S)) r :=
  s_iconst rfl rfl <|
  k
theorem b_X12_outer_70 {d : Nat} {r : PO × PM} {I : Nat → Nat → Int} {S : PS} {n0 a0 : Nat} {x1 x2 x3 x4 x5 xs0 xs1 : Int} (ho1 : -2147483648 ≤ xs0 - xs1 ∧ xs0 - xs1 ≤ 2147483647) (ho2 : -2147483648 ≤ x2 + 1 ∧ x2 + 1 ≤ 2147483647) (kt : x2 + 1 < x3 → Ev d mX12_outer (87, [some (vR (some (0, n0, a0))), some (vI x1), some (vI x2), some (vI x3), some (vI x4), some (vI (xs0 - xs1))], [vI (xs0 - xs1)], (I, S)) r) (kf : x3 ≤ x2 + 1 → Ev d mX12_outer (82, [some (vR (some (0, n0, a0))), some (vI x1), some (vI x2), some (vI x3), some (vI x4), some (vI (xs0 - xs1))], [vI (xs0 - xs1)], (I, S)) r) : Ev d mX12_outer (70, [some (vR (some (0, n0, a0))), some (vI x1), some (vI x2), some (vI x3), some (vI x4), some (vI x5)], [vI xs1, vI xs0], (I, S)) r :=
  s_isubp rfl ho1 <|
  s_istore [some (vR (some (0, n0, a0))), some (vI x1), some (vI x2), some (vI x3), some (vI x4), some (vI (xs0 - xs1))] rfl rfl <|
  s_iload rfl rfl rfl <|
  s_iload_n rfl rfl rfl <|
  s_iconst rfl rfl <|
  s_iaddp rfl ho2 <|
  s_iload_n rfl rfl rfl <|
  s_icmp_lt 87 rfl rfl kt kf
theorem b_X12_outer_82 {d : Nat} {r : PO × PM} {I : Nat → Nat → Int} {S : PS} {n0 a0 : Nat} {x1 x2 x3 x4 x5 xs0 : Int} (kt : x4 = 0 → Ev d mX12_outer (91, [some (vR (some (0, n0, a0))), some (vI x1), some (vI x2), some (vI x3), some (vI x4), some (vI x5)], [vI xs0], (I, S)) r) (kf : x4 ≠ 0 → Ev d mX12_outer (87, [some (vR (some (0, n0, a0))), some (vI x1), some (vI x2), some (vI x3), some (vI x4), some (vI x5)], [vI xs0], (I, S)) r) : Ev d mX12_outer (82, [some (vR (some (0, n0, a0))), some (vI x1), some (vI x2), some (vI x3), some (vI x4), some (vI x5)], [vI xs0], (I, S)) r :=
  s_iload rfl rfl rfl <|
  s_if_eq 91 rfl rfl kt kf
theorem b_X12_outer_87 {d : Nat} {r : PO × PM} {I : Nat → Nat → Int} {S : PS} {n0 a0 : Nat} {x1 x2 x3 x4 x5 xs0 : Int} (k : Ev d mX12_outer (92, [some (vR (some (0, n0, a0))), some (vI x1), some (vI x2), some (vI x3), some (vI x4), some (vI x5)], [vI 1, vI xs0], (I, S)) r) : Ev d mX12_outer (87, [some (vR (some (0, n0, a0))), some (vI x1), some (vI x2), some (vI x3), some (vI x4), some (vI x5)], [vI xs0], (I, S)) r :=
  s_iconst rfl rfl <|
  s_goto 92 rfl rfl k
theorem b_X12_outer_91 {d : Nat} {r : PO × PM} {I : Nat → Nat → Int} {S : PS} {n0 a0 : Nat} {x1 x2 x3 x4 x5 xs0 : Int} (k : Ev d mX12_outer (92, [some (vR (some (0, n0, a0))), some (vI x1), some (vI x2), some (vI x3), some (vI x4), some (vI x5)], [vI 0, vI xs0], (I, S)) r) : Ev d mX12_outer (91, [some (vR (some (0, n0, a0))), some (vI x1), some (vI x2), some (vI x3), some (vI x4), some (vI x5)], [vI xs0], (I, S)) r :=
  s_iconst rfl rfl <|
  k
theorem b_X12_outer_92 {d : Nat} {I : Nat → Nat → Int} {S : PS} {n0 a0 : Nat} {x1 x2 x3 x4 x5 xs0 xs1 : Int} (ho1 : -2147483648 ≤ xs0 - xs1 ∧ xs0 - xs1 ≤ 2147483647) : Ev d mX12_outer (92, [some (vR (some (0, n0, a0))), some (vI x1), some (vI x2), some (vI x3), some (vI x4), some (vI x5)], [vI xs1, vI xs0], (I, S)) (.inl (some (vI (xs0 - xs1))), (I, S)) :=
  s_isubp rfl ho1 <|
  s_istore [some (vR (some (0, n0, a0))), some (vI x1), some (vI x2), some (vI x3), some (vI x4), some (vI (xs0 - xs1))] rfl rfl <|
  s_iload rfl rfl rfl <|
  s_ret rfl rfl
theorem b_X12_border_0 {d : Nat} {r : PO × PM} {I : Nat → Nat → Int} {S : PS} {n0 a0 : Nat} {x1 : Int} (ho1 : -2147483648 ≤ 20 * x1 ∧ 20 * x1 ≤ 2147483647) (ho2 : -2147483648 ≤ (20 * x1) + 1 ∧ (20 * x1) + 1 ≤ 2147483647) (hi3 : 0 ≤ (20 * x1) + 1 ∧ (20 * x1) + 1 < (n0 : Nat)) (ho4 : -2147483648 ≤ 20 * x1 ∧ 20 * x1 ≤ 2147483647) (hi5 : 0 ≤ 20 * x1 ∧ 20 * x1 < (n0 : Nat)) (kt : I a0 ((20 * x1) + 1).toNat ≠ I a0 (20 * x1).toNat → Ev d mX12_border (26, [some (vR (some (0, n0, a0))), some (vI x1)], [], (I, S)) r) (kf : I a0 ((20 * x1) + 1).toNat = I a0 (20 * x1).toNat → Ev d mX12_border (17, [some (vR (some (0, n0, a0))), some (vI x1)], [], (I, S)) r) : Ev d mX12_border (0, [some (vR (some (0, n0, a0))), some (vI x1)], [], (I, S)) r :=
  s_aload_n rfl rfl rfl <|
  s_bipush rfl rfl <|
  s_iload_n rfl rfl rfl <|
  s_imulp rfl ho1 <|
  s_iconst rfl rfl <|
  s_iaddp rfl ho2 <|
  s_iald rfl rfl hi3 <|
  s_aload_n rfl rfl rfl <|
  s_bipush rfl rfl <|
  s_iload_n rfl rfl rfl <|
  s_imulp rfl ho4 <|
  s_iald rfl rfl hi5 <|
  s_icmp_ne 26 rfl rfl kt kf
theorem b_X12_border_17 {d : Nat} {r : PO × PM} {I : Nat → Nat → Int} {S : PS} {n0 a0 : Nat} {x1 : Int} (ho1 : -2147483648 ≤ 20 * x1 ∧ 20 * x1 ≤ 2147483647) (hi2 : 0 ≤ 20 * x1 ∧ 20 * x1 < (n0 : Nat)) (k : Ev d mX12_border (36, [some (vR (some (0, n0, a0))), some (vI x1)], [vI (I a0 (20 * x1).toNat)], (I, S)) r) : Ev d mX12_border (17, [some (vR (some (0, n0, a0))), some (vI x1)], [], (I, S)) r :=
  s_aload_n rfl rfl rfl <|
  s_bipush rfl rfl <|
  s_iload_n rfl rfl rfl <|
  s_imulp rfl ho1 <|
  s_iald rfl rfl hi2 <|
  s_goto 36 rfl rfl k
theorem b_X12_border_26 {d : Nat} {r : PO × PM} {I : Nat → Nat → Int} {S : PS} {n0 a0 : Nat} {x1 : Int} (ho1 : -2147483648 ≤ 20 * x1 ∧ 20 * x1 ≤ 2147483647) (ho2 : -2147483648 ≤ (20 * x1) + 1 ∧ (20 * x1) + 1 ≤ 2147483647) (hi3 : 0 ≤ (20 * x1) + 1 ∧ (20 * x1) + 1 < (n0 : Nat)) (ho4 : -2147483648 ≤ (I a0 ((20 * x1) + 1).toNat) + 1 ∧ (I a0 ((20 * x1) + 1).toNat) + 1 ≤ 2147483647) (k : Ev d mX12_border (36, [some (vR (some (0, n0, a0))), some (vI x1)], [vI ((I a0 ((20 * x1) + 1).toNat) + 1)], (I, S)) r) : Ev d mX12_border (26, [some (vR (some (0, n0, a0))), some (vI x1)], [], (I, S)) r :=
  s_aload_n rfl rfl rfl <|
  s_bipush rfl rfl <|
  s_iload_n rfl rfl rfl <|
  s_imulp rfl ho1 <|
  s_iconst rfl rfl <|
  s_iaddp rfl ho2 <|
  s_iald rfl rfl hi3 <|
  s_iconst rfl rfl <|
  s_iaddp rfl ho4 <|
  k
theorem b_X12_border_36 {d : Nat} {I : Nat → Nat → Int} {S : PS} {n0 a0 : Nat} {x1 xs0 : Int} : Ev d mX12_border (36, [some (vR (some (0, n0, a0))), some (vI x1)], [vI xs0], (I, S)) (.inl (some (vI xs0)), (I, S)) :=
  s_ret rfl rfl
theorem b_X12_ringOf_0 {d : Nat} {r : PO × PM} {I : Nat → Nat → Int} {S : PS} {n0 a0 : Nat} {x1 : Int} (ho1 : -2147483648 ≤ 20 * x1 ∧ 20 * x1 ≤ 2147483647) (ho2 : -2147483648 ≤ (20 * x1) + 1 ∧ (20 * x1) + 1 ≤ 2147483647) (hi3 : 0 ≤ (20 * x1) + 1 ∧ (20 * x1) + 1 < (n0 : Nat)) (kt : I a0 ((20 * x1) + 1).toNat ≠ 0 → Ev d mX12_ringOf (18, [some (vR (some (0, n0, a0))), some (vI x1), none, none], [], (I, S)) r) (kf : I a0 ((20 * x1) + 1).toNat = 0 → Ev d mX12_ringOf (11, [some (vR (some (0, n0, a0))), some (vI x1), none, none], [], (I, S)) r) : Ev d mX12_ringOf (0, [some (vR (some (0, n0, a0))), some (vI x1), none, none], [], (I, S)) r :=
  s_aload_n rfl rfl rfl <|
  s_bipush rfl rfl <|
  s_iload_n rfl rfl rfl <|
  s_imulp rfl ho1 <|
  s_iconst rfl rfl <|
  s_iaddp rfl ho2 <|
  s_iald rfl rfl hi3 <|
  s_if_ne 18 rfl rfl kt kf
theorem b_X12_ringOf_11 {d : Nat} {I : Nat → Nat → Int} {S : PS} {n0 a0 : Nat} {x1 : Int} (ho1 : -2147483648 ≤ 20 * x1 ∧ 20 * x1 ≤ 2147483647) (hi2 : 0 ≤ 20 * x1 ∧ 20 * x1 < (n0 : Nat)) : Ev d mX12_ringOf (11, [some (vR (some (0, n0, a0))), some (vI x1), none, none], [], (I, S)) (.inl (some (vI (I a0 (20 * x1).toNat))), (I, S)) :=
  s_aload_n rfl rfl rfl <|
  s_bipush rfl rfl <|
  s_iload_n rfl rfl rfl <|
  s_imulp rfl ho1 <|
  s_iald rfl rfl hi2 <|
  s_ret rfl rfl
theorem b_X12_ringOf_18 {d : Nat} {r : PO × PM} {I : Nat → Nat → Int} {S : PS} {n0 a0 : Nat} {x1 : Int} (k : Ev d mX12_ringOf (22, [some (vR (some (0, n0, a0))), some (vI x1), some (vI 0), some (vI 0)], [], (I, S)) r) : Ev d mX12_ringOf (18, [some (vR (some (0, n0, a0))), some (vI x1), none, none], [], (I, S)) r :=
  s_iconst rfl rfl <|
  s_istore_n [some (vR (some (0, n0, a0))), some (vI x1), some (vI 0), none] rfl rfl <|
  s_iconst rfl rfl <|
  s_istore_n [some (vR (some (0, n0, a0))), some (vI x1), some (vI 0), some (vI 0)] rfl rfl <|
  k
theorem b_X12_ringOf_22 {d : Nat} {r : PO × PM} {I : Nat → Nat → Int} {S : PS} {n0 a0 : Nat} {x1 x2 x3 z : Int} {I1 : Nat → Nat → Int} {S1 : PS} (c : Ca d mX12_border [vR (some (0, n0, a0)), vI x1] (I, S) (.inl (some (vI z))) (I1, S1)) (k : Ev (d + 1) mX12_ringOf (28, [some (vR (some (0, n0, a0))), some (vI x1), some (vI x2), some (vI x3)], [vI z, vI x3], (I1, S1)) r) : Ev (d + 1) mX12_ringOf (22, [some (vR (some (0, n0, a0))), some (vI x1), some (vI x2), some (vI x3)], [], (I, S)) r :=
  s_iload_n rfl rfl rfl <|
  s_aload_n rfl rfl rfl <|
  s_iload_n rfl rfl rfl <|
  s_csI rfl rfl rfl rfl rfl rfl c k
theorem b_X12_ringOf_28 {d : Nat} {r : PO × PM} {I : Nat → Nat → Int} {S : PS} {n0 a0 : Nat} {x1 x2 x3 xs0 xs1 : Int} (kt : xs1 ≤ xs0 → Ev d mX12_ringOf (48, [some (vR (some (0, n0, a0))), some (vI x1), some (vI x2), some (vI x3)], [], (I, S)) r) (kf : xs0 < xs1 → Ev d mX12_ringOf (31, [some (vR (some (0, n0, a0))), some (vI x1), some (vI x2), some (vI x3)], [], (I, S)) r) : Ev d mX12_ringOf (28, [some (vR (some (0, n0, a0))), some (vI x1), some (vI x2), some (vI x3)], [vI xs1, vI xs0], (I, S)) r :=
  s_icmp_ge 48 rfl rfl kt kf
theorem b_X12_ringOf_31 {d : Nat} {r : PO × PM} {I : Nat → Nat → Int} {S : PS} {n0 a0 : Nat} {x1 x2 x3 z : Int} {I1 : Nat → Nat → Int} {S1 : PS} (c : Ca d mX12_outer [vR (some (0, n0, a0)), vI x1, vI x3] (I, S) (.inl (some (vI z))) (I1, S1)) (k : Ev (d + 1) mX12_ringOf (38, [some (vR (some (0, n0, a0))), some (vI x1), some (vI x2), some (vI x3)], [vI z, vI x2], (I1, S1)) r) : Ev (d + 1) mX12_ringOf (31, [some (vR (some (0, n0, a0))), some (vI x1), some (vI x2), some (vI x3)], [], (I, S)) r :=
  s_iload_n rfl rfl rfl <|
  s_aload_n rfl rfl rfl <|
  s_iload_n rfl rfl rfl <|
  s_iload_n rfl rfl rfl <|
  s_csI rfl rfl rfl rfl rfl rfl c k
theorem b_X12_ringOf_38 {d : Nat} {r : PO × PM} {I : Nat → Nat → Int} {S : PS} {n0 a0 : Nat} {x1 x2 x3 xs0 xs1 : Int} (ho1 : -2147483648 ≤ xs1 - 1 ∧ xs1 - 1 ≤ 2147483647) (ho2 : -2147483648 ≤ xs0 + (xs1 - 1) ∧ xs0 + (xs1 - 1) ≤ 2147483647) (ho3 : -2147483648 ≤ x3 + 1 ∧ x3 + 1 ≤ 2147483647) (k : Ev d mX12_ringOf (22, [some (vR (some (0, n0, a0))), some (vI x1), some (vI (xs0 + (xs1 - 1))), some (vI (x3 + 1))], [], (I, S)) r) : Ev d mX12_ringOf (38, [some (vR (some (0, n0, a0))), some (vI x1), some (vI x2), some (vI x3)], [vI xs1, vI xs0], (I, S)) r :=
  s_iconst rfl rfl <|
  s_isubp rfl ho1 <|
  s_iaddp rfl ho2 <|
  s_istore_n [some (vR (some (0, n0, a0))), some (vI x1), some (vI (xs0 + (xs1 - 1))), some (vI x3)] rfl rfl <|
  s_iincp [some (vR (some (0, n0, a0))), some (vI x1), some (vI (xs0 + (xs1 - 1))), some (vI (x3 + 1))] rfl rfl ho3 rfl <|
  s_goto 22 rfl rfl k
theorem b_X12_ringOf_48 {d : Nat} {I : Nat → Nat → Int} {S : PS} {n0 a0 : Nat} {x1 x2 x3 : Int} : Ev d mX12_ringOf (48, [some (vR (some (0, n0, a0))), some (vI x1), some (vI x2), some (vI x3)], [], (I, S)) (.inl (some (vI x2)), (I, S)) :=
  s_iload_n rfl rfl rfl <|
  s_ret rfl rfl
theorem b_X12_joins_0 {d : Nat} {I : Nat → Nat → Int} {S : PS} {a0 p1 q1 : Nat} {x1 x2 x3 : Int} (hr1 : S.1 a0 26 = some (0, q1, p1)) (ho2 : -2147483648 ≤ 15 * x1 ∧ 15 * x1 ≤ 2147483647) (ho3 : -2147483648 ≤ (15 * x1) + x2 ∧ (15 * x1) + x2 ≤ 2147483647) (hi4 : 0 ≤ (15 * x1) + x2 ∧ (15 * x1) + x2 < (q1 : Nat)) (hi5 : 0 ≤ (15 * x1) + x2 ∧ (15 * x1) + x2 < (q1 : Nat)) (ho6 : -2147483648 ≤ 15 * x1 ∧ 15 * x1 ≤ 2147483647) (ho7 : -2147483648 ≤ (15 * x1) + x3 ∧ (15 * x1) + x3 ≤ 2147483647) (hi8 : 0 ≤ (15 * x1) + x3 ∧ (15 * x1) + x3 < (q1 : Nat)) (hi9 : 0 ≤ (15 * x1) + x3 ∧ (15 * x1) + x3 < (q1 : Nat)) : Ev d mX12_joins (0, [some (vR (some (22, 0, a0))), some (vI x1), some (vI x2), some (vI x3)], [], (I, S)) (.inl none, ((up2 (up2 I p1 (((15 * x1) + x2).toNat) (p_or (I p1 ((15 * x1) + x2).toNat) (p_shl 1 x3))) p1 (((15 * x1) + x3).toNat) (p_or ((up2 I p1 (((15 * x1) + x2).toNat) (p_or (I p1 ((15 * x1) + x2).toNat) (p_shl 1 x3))) p1 ((15 * x1) + x3).toNat) (p_shl 1 x2))), S)) :=
  s_aload_n rfl rfl rfl <|
  s_getR rfl rfl rfl hr1 <|
  s_bipush rfl rfl <|
  s_iload_n rfl rfl rfl <|
  s_imulp rfl ho2 <|
  s_iload_n rfl rfl rfl <|
  s_iaddp rfl ho3 <|
  s_dup2 rfl rfl <|
  s_iald rfl rfl hi4 <|
  s_iconst rfl rfl <|
  s_iload_n rfl rfl rfl <|
  s_ishl rfl <|
  s_ior rfl <|
  s_iast rfl hi5 <|
  s_aload_n rfl rfl rfl <|
  s_getR rfl rfl rfl hr1 <|
  s_bipush rfl rfl <|
  s_iload_n rfl rfl rfl <|
  s_imulp rfl ho6 <|
  s_iload_n rfl rfl rfl <|
  s_iaddp rfl ho7 <|
  s_dup2 rfl rfl <|
  s_iald rfl rfl hi8 <|
  s_iconst rfl rfl <|
  s_iload_n rfl rfl rfl <|
  s_ishl rfl <|
  s_ior rfl <|
  s_iast rfl hi9 <|
  s_vret rfl rfl
theorem b_X12_laysEdges_0 {d : Nat} {r : PO × PM} {I : Nat → Nat → Int} {S : PS} {a0 p1 q1 : Nat} {x1 : Int} (hr1 : S.1 a0 22 = some (0, q1, p1)) (ho2 : -2147483648 ≤ 20 * x1 ∧ 20 * x1 ≤ 2147483647) (ho3 : -2147483648 ≤ (20 * x1) + 9 ∧ (20 * x1) + 9 ≤ 2147483647) (hi4 : 0 ≤ (20 * x1) + 9 ∧ (20 * x1) + 9 < (q1 : Nat)) (ho5 : -2147483648 ≤ 20 * x1 ∧ 20 * x1 ≤ 2147483647) (ho6 : -2147483648 ≤ (20 * x1) + 1 ∧ (20 * x1) + 1 ≤ 2147483647) (hi7 : 0 ≤ (20 * x1) + 1 ∧ (20 * x1) + 1 < (q1 : Nat)) (k : Ev d mX12_laysEdges (28, [some (vR (some (22, 0, a0))), some (vI x1), some (vI (I p1 ((20 * x1) + 9).toNat)), some (vI (I p1 ((20 * x1) + 1).toNat)), some (vI 0), none, none, none, none], [], (I, S)) r) : Ev d mX12_laysEdges (0, [some (vR (some (22, 0, a0))), some (vI x1), none, none, none, none, none, none, none], [], (I, S)) r :=
  s_aload_n rfl rfl rfl <|
  s_getR rfl rfl rfl hr1 <|
  s_bipush rfl rfl <|
  s_iload_n rfl rfl rfl <|
  s_imulp rfl ho2 <|
  s_bipush rfl rfl <|
  s_iaddp rfl ho3 <|
  s_iald rfl rfl hi4 <|
  s_istore_n [some (vR (some (22, 0, a0))), some (vI x1), some (vI (I p1 ((20 * x1) + 9).toNat)), none, none, none, none, none, none] rfl rfl <|
  s_aload_n rfl rfl rfl <|
  s_getR rfl rfl rfl hr1 <|
  s_bipush rfl rfl <|
  s_iload_n rfl rfl rfl <|
  s_imulp rfl ho5 <|
  s_iconst rfl rfl <|
  s_iaddp rfl ho6 <|
  s_iald rfl rfl hi7 <|
  s_istore_n [some (vR (some (22, 0, a0))), some (vI x1), some (vI (I p1 ((20 * x1) + 9).toNat)), some (vI (I p1 ((20 * x1) + 1).toNat)), none, none, none, none, none] rfl rfl <|
  s_iconst rfl rfl <|
  s_istore [some (vR (some (22, 0, a0))), some (vI x1), some (vI (I p1 ((20 * x1) + 9).toNat)), some (vI (I p1 ((20 * x1) + 1).toNat)), some (vI 0), none, none, none, none] rfl rfl <|
  k
theorem b_X12_laysEdges_28 {d : Nat} {r : PO × PM} {I : Nat → Nat → Int} {S : PS} {a0 : Nat} {x1 x2 x3 x4 : Int} (kt : 15 ≤ x4 → Ev d mX12_laysEdges (54, [some (vR (some (22, 0, a0))), some (vI x1), some (vI x2), some (vI x3), some (vI x4), none, none, none, none], [], (I, S)) r) (kf : x4 < 15 → Ev d mX12_laysEdges (35, [some (vR (some (22, 0, a0))), some (vI x1), some (vI x2), some (vI x3), some (vI x4), none, none, none, none], [], (I, S)) r) : Ev d mX12_laysEdges (28, [some (vR (some (22, 0, a0))), some (vI x1), some (vI x2), some (vI x3), some (vI x4), none, none, none, none], [], (I, S)) r :=
  s_iload rfl rfl rfl <|
  s_bipush rfl rfl <|
  s_icmp_ge 54 rfl rfl kt kf
theorem b_X12_laysEdges_35 {d : Nat} {r : PO × PM} {I : Nat → Nat → Int} {S : PS} {a0 p1 q1 : Nat} {x1 x2 x3 x4 : Int} (hr1 : S.1 a0 26 = some (0, q1, p1)) (ho2 : -2147483648 ≤ 15 * x1 ∧ 15 * x1 ≤ 2147483647) (ho3 : -2147483648 ≤ (15 * x1) + x4 ∧ (15 * x1) + x4 ≤ 2147483647) (hi4 : 0 ≤ (15 * x1) + x4 ∧ (15 * x1) + x4 < (q1 : Nat)) (ho5 : -2147483648 ≤ x4 + 1 ∧ x4 + 1 ≤ 2147483647) (k : Ev d mX12_laysEdges (28, [some (vR (some (22, 0, a0))), some (vI x1), some (vI x2), some (vI x3), some (vI (x4 + 1)), none, none, none, none], [], ((up2 I p1 (((15 * x1) + x4).toNat) 0), S)) r) : Ev d mX12_laysEdges (35, [some (vR (some (22, 0, a0))), some (vI x1), some (vI x2), some (vI x3), some (vI x4), none, none, none, none], [], (I, S)) r :=
  s_aload_n rfl rfl rfl <|
  s_getR rfl rfl rfl hr1 <|
  s_bipush rfl rfl <|
  s_iload_n rfl rfl rfl <|
  s_imulp rfl ho2 <|
  s_iload rfl rfl rfl <|
  s_iaddp rfl ho3 <|
  s_iconst rfl rfl <|
  s_iast rfl hi4 <|
  s_iincp [some (vR (some (22, 0, a0))), some (vI x1), some (vI x2), some (vI x3), some (vI (x4 + 1)), none, none, none, none] rfl rfl ho5 rfl <|
  s_goto 28 rfl rfl k
theorem b_X12_laysEdges_54 {d : Nat} {r : PO × PM} {I : Nat → Nat → Int} {S : PS} {a0 : Nat} {x1 x2 x3 x4 : Int} (k : Ev d mX12_laysEdges (57, [some (vR (some (22, 0, a0))), some (vI x1), some (vI x2), some (vI x3), some (vI 0), none, none, none, none], [], (I, S)) r) : Ev d mX12_laysEdges (54, [some (vR (some (22, 0, a0))), some (vI x1), some (vI x2), some (vI x3), some (vI x4), none, none, none, none], [], (I, S)) r :=
  s_iconst rfl rfl <|
  s_istore [some (vR (some (22, 0, a0))), some (vI x1), some (vI x2), some (vI x3), some (vI 0), none, none, none, none] rfl rfl <|
  k
theorem b_X12_laysEdges_57 {d : Nat} {r : PO × PM} {I : Nat → Nat → Int} {S : PS} {a0 : Nat} {x1 x2 x3 x4 : Int} (kt : x2 ≤ x4 → Ev d mX12_laysEdges (82, [some (vR (some (22, 0, a0))), some (vI x1), some (vI x2), some (vI x3), some (vI x4), none, none, none, none], [], (I, S)) r) (kf : x4 < x2 → Ev d mX12_laysEdges (63, [some (vR (some (22, 0, a0))), some (vI x1), some (vI x2), some (vI x3), some (vI x4), none, none, none, none], [], (I, S)) r) : Ev d mX12_laysEdges (57, [some (vR (some (22, 0, a0))), some (vI x1), some (vI x2), some (vI x3), some (vI x4), none, none, none, none], [], (I, S)) r :=
  s_iload rfl rfl rfl <|
  s_iload_n rfl rfl rfl <|
  s_icmp_ge 82 rfl rfl kt kf
theorem b_X12_laysEdges_63 {d : Nat} {r : PO × PM} {I : Nat → Nat → Int} {S : PS} {a0 : Nat} {x1 x2 x3 x4 : Int} {I1 : Nat → Nat → Int} {S1 : PS} (ho1 : -2147483648 ≤ x4 + 1 ∧ x4 + 1 ≤ 2147483647) (hd2 : (0 ≤ x4 + 1 ∧ x4 + 1 ≤ 2147483647) ∧ 0 < x2 ∧ x2 ≤ 2147483647) (c : Ca d mX12_joins [vR (some (22, 0, a0)), vI x1, vI x4, vI ((x4 + 1) % x2)] (I, S) (.inl none) (I1, S1)) (k : Ev (d + 1) mX12_laysEdges (76, [some (vR (some (22, 0, a0))), some (vI x1), some (vI x2), some (vI x3), some (vI x4), none, none, none, none], [], (I1, S1)) r) : Ev (d + 1) mX12_laysEdges (63, [some (vR (some (22, 0, a0))), some (vI x1), some (vI x2), some (vI x3), some (vI x4), none, none, none, none], [], (I, S)) r :=
  s_aload_n rfl rfl rfl <|
  s_iload_n rfl rfl rfl <|
  s_iload rfl rfl rfl <|
  s_iload rfl rfl rfl <|
  s_iconst rfl rfl <|
  s_iaddp rfl ho1 <|
  s_iload_n rfl rfl rfl <|
  s_iremp rfl hd2 <|
  s_cvV rfl rfl rfl rfl rfl c k
theorem b_X12_laysEdges_76 {d : Nat} {r : PO × PM} {I : Nat → Nat → Int} {S : PS} {a0 : Nat} {x1 x2 x3 x4 : Int} (ho1 : -2147483648 ≤ x4 + 1 ∧ x4 + 1 ≤ 2147483647) (k : Ev d mX12_laysEdges (57, [some (vR (some (22, 0, a0))), some (vI x1), some (vI x2), some (vI x3), some (vI (x4 + 1)), none, none, none, none], [], (I, S)) r) : Ev d mX12_laysEdges (76, [some (vR (some (22, 0, a0))), some (vI x1), some (vI x2), some (vI x3), some (vI x4), none, none, none, none], [], (I, S)) r :=
  s_iincp [some (vR (some (22, 0, a0))), some (vI x1), some (vI x2), some (vI x3), some (vI (x4 + 1)), none, none, none, none] rfl rfl ho1 rfl <|
  s_goto 57 rfl rfl k
theorem b_X12_laysEdges_82 {d : Nat} {r : PO × PM} {I : Nat → Nat → Int} {S : PS} {a0 : Nat} {x1 x2 x3 x4 : Int} (k : Ev d mX12_laysEdges (85, [some (vR (some (22, 0, a0))), some (vI x1), some (vI x2), some (vI x3), some (vI 0), none, none, none, none], [], (I, S)) r) : Ev d mX12_laysEdges (82, [some (vR (some (22, 0, a0))), some (vI x1), some (vI x2), some (vI x3), some (vI x4), none, none, none, none], [], (I, S)) r :=
  s_iconst rfl rfl <|
  s_istore [some (vR (some (22, 0, a0))), some (vI x1), some (vI x2), some (vI x3), some (vI 0), none, none, none, none] rfl rfl <|
  k
theorem b_X12_laysEdges_85 {d : Nat} {r : PO × PM} {I : Nat → Nat → Int} {S : PS} {a0 : Nat} {x1 x2 x3 x4 : Int} (kt : x3 ≤ x4 → Ev d mX12_laysEdges (164, [some (vR (some (22, 0, a0))), some (vI x1), some (vI x2), some (vI x3), some (vI x4), none, none, none, none], [], (I, S)) r) (kf : x4 < x3 → Ev d mX12_laysEdges (91, [some (vR (some (22, 0, a0))), some (vI x1), some (vI x2), some (vI x3), some (vI x4), none, none, none, none], [], (I, S)) r) : Ev d mX12_laysEdges (85, [some (vR (some (22, 0, a0))), some (vI x1), some (vI x2), some (vI x3), some (vI x4), none, none, none, none], [], (I, S)) r :=
  s_iload rfl rfl rfl <|
  s_iload_n rfl rfl rfl <|
  s_icmp_ge 164 rfl rfl kt kf
theorem b_X12_laysEdges_91 {d : Nat} {r : PO × PM} {I : Nat → Nat → Int} {S : PS} {a0 : Nat} {x1 x2 x3 x4 : Int} {I1 : Nat → Nat → Int} {S1 : PS} (ho1 : -2147483648 ≤ x2 + 1 ∧ x2 + 1 ≤ 2147483647) (ho2 : -2147483648 ≤ x2 + 1 + x4 ∧ x2 + 1 + x4 ≤ 2147483647) (c : Ca d mX12_joins [vR (some (22, 0, a0)), vI x1, vI x2, vI (x2 + 1 + x4)] (I, S) (.inl none) (I1, S1)) (k : Ev (d + 1) mX12_laysEdges (103, [some (vR (some (22, 0, a0))), some (vI x1), some (vI x2), some (vI x3), some (vI x4), none, none, none, none], [], (I1, S1)) r) : Ev (d + 1) mX12_laysEdges (91, [some (vR (some (22, 0, a0))), some (vI x1), some (vI x2), some (vI x3), some (vI x4), none, none, none, none], [], (I, S)) r :=
  s_aload_n rfl rfl rfl <|
  s_iload_n rfl rfl rfl <|
  s_iload_n rfl rfl rfl <|
  s_iload_n rfl rfl rfl <|
  s_iconst rfl rfl <|
  s_iaddp rfl ho1 <|
  s_iload rfl rfl rfl <|
  s_iaddp rfl ho2 <|
  s_cvV rfl rfl rfl rfl rfl c k
theorem b_X12_laysEdges_103 {d : Nat} {r : PO × PM} {I : Nat → Nat → Int} {S : PS} {a0 : Nat} {x1 x2 x3 x4 : Int} (ho1 : -2147483648 ≤ x4 + 1 ∧ x4 + 1 ≤ 2147483647) (kt : x3 ≤ x4 + 1 → Ev d mX12_laysEdges (131, [some (vR (some (22, 0, a0))), some (vI x1), some (vI x2), some (vI x3), some (vI x4), none, none, none, none], [], (I, S)) r) (kf : x4 + 1 < x3 → Ev d mX12_laysEdges (111, [some (vR (some (22, 0, a0))), some (vI x1), some (vI x2), some (vI x3), some (vI x4), none, none, none, none], [], (I, S)) r) : Ev d mX12_laysEdges (103, [some (vR (some (22, 0, a0))), some (vI x1), some (vI x2), some (vI x3), some (vI x4), none, none, none, none], [], (I, S)) r :=
  s_iload rfl rfl rfl <|
  s_iconst rfl rfl <|
  s_iaddp rfl ho1 <|
  s_iload_n rfl rfl rfl <|
  s_icmp_ge 131 rfl rfl kt kf
theorem b_X12_laysEdges_111 {d : Nat} {r : PO × PM} {I : Nat → Nat → Int} {S : PS} {a0 : Nat} {x1 x2 x3 x4 : Int} {I1 : Nat → Nat → Int} {S1 : PS} (ho1 : -2147483648 ≤ x2 + 1 ∧ x2 + 1 ≤ 2147483647) (ho2 : -2147483648 ≤ x2 + 1 + x4 ∧ x2 + 1 + x4 ≤ 2147483647) (ho3 : -2147483648 ≤ x2 + 2 ∧ x2 + 2 ≤ 2147483647) (ho4 : -2147483648 ≤ x2 + 2 + x4 ∧ x2 + 2 + x4 ≤ 2147483647) (c : Ca d mX12_joins [vR (some (22, 0, a0)), vI x1, vI (x2 + 1 + x4), vI (x2 + 2 + x4)] (I, S) (.inl none) (I1, S1)) (k : Ev (d + 1) mX12_laysEdges (128, [some (vR (some (22, 0, a0))), some (vI x1), some (vI x2), some (vI x3), some (vI x4), none, none, none, none], [], (I1, S1)) r) : Ev (d + 1) mX12_laysEdges (111, [some (vR (some (22, 0, a0))), some (vI x1), some (vI x2), some (vI x3), some (vI x4), none, none, none, none], [], (I, S)) r :=
  s_aload_n rfl rfl rfl <|
  s_iload_n rfl rfl rfl <|
  s_iload_n rfl rfl rfl <|
  s_iconst rfl rfl <|
  s_iaddp rfl ho1 <|
  s_iload rfl rfl rfl <|
  s_iaddp rfl ho2 <|
  s_iload_n rfl rfl rfl <|
  s_iconst rfl rfl <|
  s_iaddp rfl ho3 <|
  s_iload rfl rfl rfl <|
  s_iaddp rfl ho4 <|
  s_cvV rfl rfl rfl rfl rfl c k
theorem b_X12_laysEdges_128 {d : Nat} {r : PO × PM} {I : Nat → Nat → Int} {S : PS} {a0 : Nat} {x1 x2 x3 x4 : Int} (k : Ev d mX12_laysEdges (158, [some (vR (some (22, 0, a0))), some (vI x1), some (vI x2), some (vI x3), some (vI x4), none, none, none, none], [], (I, S)) r) : Ev d mX12_laysEdges (128, [some (vR (some (22, 0, a0))), some (vI x1), some (vI x2), some (vI x3), some (vI x4), none, none, none, none], [], (I, S)) r :=
  s_goto 158 rfl rfl k
theorem b_X12_laysEdges_131 {d : Nat} {r : PO × PM} {I : Nat → Nat → Int} {S : PS} {a0 p1 q1 : Nat} {x1 x2 x3 x4 : Int} (hr1 : S.1 a0 22 = some (0, q1, p1)) (ho2 : -2147483648 ≤ 20 * x1 ∧ 20 * x1 ≤ 2147483647) (hi3 : 0 ≤ 20 * x1 ∧ 20 * x1 < (q1 : Nat)) (kt : x3 ≠ I p1 (20 * x1).toNat → Ev d mX12_laysEdges (158, [some (vR (some (22, 0, a0))), some (vI x1), some (vI x2), some (vI x3), some (vI x4), none, none, none, none], [], (I, S)) r) (kf : x3 = I p1 (20 * x1).toNat → Ev d mX12_laysEdges (144, [some (vR (some (22, 0, a0))), some (vI x1), some (vI x2), some (vI x3), some (vI x4), none, none, none, none], [], (I, S)) r) : Ev d mX12_laysEdges (131, [some (vR (some (22, 0, a0))), some (vI x1), some (vI x2), some (vI x3), some (vI x4), none, none, none, none], [], (I, S)) r :=
  s_iload_n rfl rfl rfl <|
  s_aload_n rfl rfl rfl <|
  s_getR rfl rfl rfl hr1 <|
  s_bipush rfl rfl <|
  s_iload_n rfl rfl rfl <|
  s_imulp rfl ho2 <|
  s_iald rfl rfl hi3 <|
  s_icmp_ne 158 rfl rfl kt kf
theorem b_X12_laysEdges_144 {d : Nat} {r : PO × PM} {I : Nat → Nat → Int} {S : PS} {a0 : Nat} {x1 x2 x3 x4 : Int} {I1 : Nat → Nat → Int} {S1 : PS} (ho1 : -2147483648 ≤ x2 + 1 ∧ x2 + 1 ≤ 2147483647) (ho2 : -2147483648 ≤ x2 + 1 + x4 ∧ x2 + 1 + x4 ≤ 2147483647) (ho3 : -2147483648 ≤ x2 + 1 ∧ x2 + 1 ≤ 2147483647) (c : Ca d mX12_joins [vR (some (22, 0, a0)), vI x1, vI (x2 + 1 + x4), vI (x2 + 1)] (I, S) (.inl none) (I1, S1)) (k : Ev (d + 1) mX12_laysEdges (158, [some (vR (some (22, 0, a0))), some (vI x1), some (vI x2), some (vI x3), some (vI x4), none, none, none, none], [], (I1, S1)) r) : Ev (d + 1) mX12_laysEdges (144, [some (vR (some (22, 0, a0))), some (vI x1), some (vI x2), some (vI x3), some (vI x4), none, none, none, none], [], (I, S)) r :=
  s_aload_n rfl rfl rfl <|
  s_iload_n rfl rfl rfl <|
  s_iload_n rfl rfl rfl <|
  s_iconst rfl rfl <|
  s_iaddp rfl ho1 <|
  s_iload rfl rfl rfl <|
  s_iaddp rfl ho2 <|
  s_iload_n rfl rfl rfl <|
  s_iconst rfl rfl <|
  s_iaddp rfl ho3 <|
  s_cvV rfl rfl rfl rfl rfl c k
theorem b_X12_laysEdges_158 {d : Nat} {r : PO × PM} {I : Nat → Nat → Int} {S : PS} {a0 : Nat} {x1 x2 x3 x4 : Int} (ho1 : -2147483648 ≤ x4 + 1 ∧ x4 + 1 ≤ 2147483647) (k : Ev d mX12_laysEdges (85, [some (vR (some (22, 0, a0))), some (vI x1), some (vI x2), some (vI x3), some (vI (x4 + 1)), none, none, none, none], [], (I, S)) r) : Ev d mX12_laysEdges (158, [some (vR (some (22, 0, a0))), some (vI x1), some (vI x2), some (vI x3), some (vI x4), none, none, none, none], [], (I, S)) r :=
  s_iincp [some (vR (some (22, 0, a0))), some (vI x1), some (vI x2), some (vI x3), some (vI (x4 + 1)), none, none, none, none] rfl rfl ho1 rfl <|
  s_goto 85 rfl rfl k
theorem b_X12_laysEdges_164 {d : Nat} {r : PO × PM} {I : Nat → Nat → Int} {S : PS} {a0 : Nat} {x1 x2 x3 x4 : Int} (k : Ev d mX12_laysEdges (170, [some (vR (some (22, 0, a0))), some (vI x1), some (vI x2), some (vI x3), some (vI 0), some (vI 0), none, none, none], [], (I, S)) r) : Ev d mX12_laysEdges (164, [some (vR (some (22, 0, a0))), some (vI x1), some (vI x2), some (vI x3), some (vI x4), none, none, none, none], [], (I, S)) r :=
  s_iconst rfl rfl <|
  s_istore [some (vR (some (22, 0, a0))), some (vI x1), some (vI x2), some (vI x3), some (vI 0), none, none, none, none] rfl rfl <|
  s_iconst rfl rfl <|
  s_istore [some (vR (some (22, 0, a0))), some (vI x1), some (vI x2), some (vI x3), some (vI 0), some (vI 0), none, none, none] rfl rfl <|
  k
theorem b_X12_laysEdges_170 {d : Nat} {r : PO × PM} {I : Nat → Nat → Int} {S : PS} {a0 p1 q1 : Nat} {x1 x2 x3 x4 x5 z : Int} {I1 : Nat → Nat → Int} {S1 : PS} (hr1 : S.1 a0 22 = some (0, q1, p1)) (c : Ca d mX12_border [vR (some (0, q1, p1)), vI x1] (I, S) (.inl (some (vI z))) (I1, S1)) (k : Ev (d + 1) mX12_laysEdges (180, [some (vR (some (22, 0, a0))), some (vI x1), some (vI x2), some (vI x3), some (vI x4), some (vI x5), none, none, none], [vI z, vI x5], (I1, S1)) r) : Ev (d + 1) mX12_laysEdges (170, [some (vR (some (22, 0, a0))), some (vI x1), some (vI x2), some (vI x3), some (vI x4), some (vI x5), none, none, none], [], (I, S)) r :=
  s_iload rfl rfl rfl <|
  s_aload_n rfl rfl rfl <|
  s_getR rfl rfl rfl hr1 <|
  s_iload_n rfl rfl rfl <|
  s_csI rfl rfl rfl rfl rfl rfl c k
theorem b_X12_laysEdges_180 {d : Nat} {r : PO × PM} {I : Nat → Nat → Int} {S : PS} {a0 : Nat} {x1 x2 x3 x4 x5 xs0 xs1 : Int} (kt : xs1 ≤ xs0 → Ev d mX12_laysEdges (266, [some (vR (some (22, 0, a0))), some (vI x1), some (vI x2), some (vI x3), some (vI x4), some (vI x5), none, none, none], [], (I, S)) r) (kf : xs0 < xs1 → Ev d mX12_laysEdges (183, [some (vR (some (22, 0, a0))), some (vI x1), some (vI x2), some (vI x3), some (vI x4), some (vI x5), none, none, none], [], (I, S)) r) : Ev d mX12_laysEdges (180, [some (vR (some (22, 0, a0))), some (vI x1), some (vI x2), some (vI x3), some (vI x4), some (vI x5), none, none, none], [vI xs1, vI xs0], (I, S)) r :=
  s_icmp_ge 266 rfl rfl kt kf
theorem b_X12_laysEdges_183 {d : Nat} {r : PO × PM} {I : Nat → Nat → Int} {S : PS} {a0 : Nat} {x1 x2 x3 x4 x5 : Int} (kt : x5 ≠ x3 → Ev d mX12_laysEdges (193, [some (vR (some (22, 0, a0))), some (vI x1), some (vI x2), some (vI x3), some (vI x4), some (vI x5), none, none, none], [], (I, S)) r) (kf : x5 = x3 → Ev d mX12_laysEdges (189, [some (vR (some (22, 0, a0))), some (vI x1), some (vI x2), some (vI x3), some (vI x4), some (vI x5), none, none, none], [], (I, S)) r) : Ev d mX12_laysEdges (183, [some (vR (some (22, 0, a0))), some (vI x1), some (vI x2), some (vI x3), some (vI x4), some (vI x5), none, none, none], [], (I, S)) r :=
  s_iload rfl rfl rfl <|
  s_iload_n rfl rfl rfl <|
  s_icmp_ne 193 rfl rfl kt kf
theorem b_X12_laysEdges_189 {d : Nat} {r : PO × PM} {I : Nat → Nat → Int} {S : PS} {a0 : Nat} {x1 x2 x3 x4 x5 : Int} (k : Ev d mX12_laysEdges (199, [some (vR (some (22, 0, a0))), some (vI x1), some (vI x2), some (vI x3), some (vI x4), some (vI x5), none, none, none], [vI x2], (I, S)) r) : Ev d mX12_laysEdges (189, [some (vR (some (22, 0, a0))), some (vI x1), some (vI x2), some (vI x3), some (vI x4), some (vI x5), none, none, none], [], (I, S)) r :=
  s_iload_n rfl rfl rfl <|
  s_goto 199 rfl rfl k
theorem b_X12_laysEdges_193 {d : Nat} {r : PO × PM} {I : Nat → Nat → Int} {S : PS} {a0 : Nat} {x1 x2 x3 x4 x5 : Int} (ho1 : -2147483648 ≤ x2 + 1 ∧ x2 + 1 ≤ 2147483647) (ho2 : -2147483648 ≤ x2 + 1 + x5 ∧ x2 + 1 + x5 ≤ 2147483647) (k : Ev d mX12_laysEdges (199, [some (vR (some (22, 0, a0))), some (vI x1), some (vI x2), some (vI x3), some (vI x4), some (vI x5), none, none, none], [vI (x2 + 1 + x5)], (I, S)) r) : Ev d mX12_laysEdges (193, [some (vR (some (22, 0, a0))), some (vI x1), some (vI x2), some (vI x3), some (vI x4), some (vI x5), none, none, none], [], (I, S)) r :=
  s_iload_n rfl rfl rfl <|
  s_iconst rfl rfl <|
  s_iaddp rfl ho1 <|
  s_iload rfl rfl rfl <|
  s_iaddp rfl ho2 <|
  k
theorem b_X12_laysEdges_199 {d : Nat} {r : PO × PM} {I : Nat → Nat → Int} {S : PS} {a0 : Nat} {x1 x2 x3 x4 x5 xs0 : Int} (kt : x3 ≠ 0 → Ev d mX12_laysEdges (209, [some (vR (some (22, 0, a0))), some (vI x1), some (vI x2), some (vI x3), some (vI x4), some (vI x5), some (vI xs0), none, none], [], (I, S)) r) (kf : x3 = 0 → Ev d mX12_laysEdges (205, [some (vR (some (22, 0, a0))), some (vI x1), some (vI x2), some (vI x3), some (vI x4), some (vI x5), some (vI xs0), none, none], [], (I, S)) r) : Ev d mX12_laysEdges (199, [some (vR (some (22, 0, a0))), some (vI x1), some (vI x2), some (vI x3), some (vI x4), some (vI x5), none, none, none], [vI xs0], (I, S)) r :=
  s_istore [some (vR (some (22, 0, a0))), some (vI x1), some (vI x2), some (vI x3), some (vI x4), some (vI x5), some (vI xs0), none, none] rfl rfl <|
  s_iload_n rfl rfl rfl <|
  s_if_ne 209 rfl rfl kt kf
theorem b_X12_laysEdges_205 {d : Nat} {r : PO × PM} {I : Nat → Nat → Int} {S : PS} {a0 : Nat} {x1 x2 x3 x4 x5 x6 : Int} (k : Ev d mX12_laysEdges (219, [some (vR (some (22, 0, a0))), some (vI x1), some (vI x2), some (vI x3), some (vI x4), some (vI x5), some (vI x6), none, none], [vI x2], (I, S)) r) : Ev d mX12_laysEdges (205, [some (vR (some (22, 0, a0))), some (vI x1), some (vI x2), some (vI x3), some (vI x4), some (vI x5), some (vI x6), none, none], [], (I, S)) r :=
  s_iload_n rfl rfl rfl <|
  s_goto 219 rfl rfl k
theorem b_X12_laysEdges_209 {d : Nat} {r : PO × PM} {I : Nat → Nat → Int} {S : PS} {a0 p1 q1 : Nat} {x1 x2 x3 x4 x5 x6 z : Int} {I1 : Nat → Nat → Int} {S1 : PS} (hr1 : S.1 a0 22 = some (0, q1, p1)) (c : Ca d mX12_outer [vR (some (0, q1, p1)), vI x1, vI x5] (I, S) (.inl (some (vI z))) (I1, S1)) (k : Ev (d + 1) mX12_laysEdges (219, [some (vR (some (22, 0, a0))), some (vI x1), some (vI x2), some (vI x3), some (vI x4), some (vI x5), some (vI x6), none, none], [vI z], (I1, S1)) r) : Ev (d + 1) mX12_laysEdges (209, [some (vR (some (22, 0, a0))), some (vI x1), some (vI x2), some (vI x3), some (vI x4), some (vI x5), some (vI x6), none, none], [], (I, S)) r :=
  s_aload_n rfl rfl rfl <|
  s_getR rfl rfl rfl hr1 <|
  s_iload_n rfl rfl rfl <|
  s_iload rfl rfl rfl <|
  s_csI rfl rfl rfl rfl rfl rfl c k
theorem b_X12_laysEdges_219 {d : Nat} {r : PO × PM} {I : Nat → Nat → Int} {S : PS} {a0 : Nat} {x1 x2 x3 x4 x5 x6 xs0 : Int} (k : Ev d mX12_laysEdges (224, [some (vR (some (22, 0, a0))), some (vI x1), some (vI x2), some (vI x3), some (vI x4), some (vI x5), some (vI x6), some (vI xs0), some (vI 0)], [], (I, S)) r) : Ev d mX12_laysEdges (219, [some (vR (some (22, 0, a0))), some (vI x1), some (vI x2), some (vI x3), some (vI x4), some (vI x5), some (vI x6), none, none], [vI xs0], (I, S)) r :=
  s_istore [some (vR (some (22, 0, a0))), some (vI x1), some (vI x2), some (vI x3), some (vI x4), some (vI x5), some (vI x6), some (vI xs0), none] rfl rfl <|
  s_iconst rfl rfl <|
  s_istore [some (vR (some (22, 0, a0))), some (vI x1), some (vI x2), some (vI x3), some (vI x4), some (vI x5), some (vI x6), some (vI xs0), some (vI 0)] rfl rfl <|
  k
theorem b_X12_laysEdges_224 {d : Nat} {r : PO × PM} {I : Nat → Nat → Int} {S : PS} {a0 : Nat} {x1 x2 x3 x4 x5 x6 x7 x8 : Int} (kt : x7 ≤ x8 → Ev d mX12_laysEdges (251, [some (vR (some (22, 0, a0))), some (vI x1), some (vI x2), some (vI x3), some (vI x4), some (vI x5), some (vI x6), some (vI x7), some (vI x8)], [], (I, S)) r) (kf : x8 < x7 → Ev d mX12_laysEdges (231, [some (vR (some (22, 0, a0))), some (vI x1), some (vI x2), some (vI x3), some (vI x4), some (vI x5), some (vI x6), some (vI x7), some (vI x8)], [], (I, S)) r) : Ev d mX12_laysEdges (224, [some (vR (some (22, 0, a0))), some (vI x1), some (vI x2), some (vI x3), some (vI x4), some (vI x5), some (vI x6), some (vI x7), some (vI x8)], [], (I, S)) r :=
  s_iload rfl rfl rfl <|
  s_iload rfl rfl rfl <|
  s_icmp_ge 251 rfl rfl kt kf
theorem b_X12_laysEdges_231 {d : Nat} {r : PO × PM} {I : Nat → Nat → Int} {S : PS} {a0 : Nat} {x1 x2 x3 x4 x5 x6 x7 x8 : Int} {I1 : Nat → Nat → Int} {S1 : PS} (ho1 : -2147483648 ≤ x4 + x8 ∧ x4 + x8 ≤ 2147483647) (hd2 : (0 ≤ x4 + x8 ∧ x4 + x8 ≤ 2147483647) ∧ 0 < x2 ∧ x2 ≤ 2147483647) (c : Ca d mX12_joins [vR (some (22, 0, a0)), vI x1, vI x6, vI ((x4 + x8) % x2)] (I, S) (.inl none) (I1, S1)) (k : Ev (d + 1) mX12_laysEdges (245, [some (vR (some (22, 0, a0))), some (vI x1), some (vI x2), some (vI x3), some (vI x4), some (vI x5), some (vI x6), some (vI x7), some (vI x8)], [], (I1, S1)) r) : Ev (d + 1) mX12_laysEdges (231, [some (vR (some (22, 0, a0))), some (vI x1), some (vI x2), some (vI x3), some (vI x4), some (vI x5), some (vI x6), some (vI x7), some (vI x8)], [], (I, S)) r :=
  s_aload_n rfl rfl rfl <|
  s_iload_n rfl rfl rfl <|
  s_iload rfl rfl rfl <|
  s_iload rfl rfl rfl <|
  s_iload rfl rfl rfl <|
  s_iaddp rfl ho1 <|
  s_iload_n rfl rfl rfl <|
  s_iremp rfl hd2 <|
  s_cvV rfl rfl rfl rfl rfl c k
theorem b_X12_laysEdges_245 {d : Nat} {r : PO × PM} {I : Nat → Nat → Int} {S : PS} {a0 : Nat} {x1 x2 x3 x4 x5 x6 x7 x8 : Int} (ho1 : -2147483648 ≤ x8 + 1 ∧ x8 + 1 ≤ 2147483647) (k : Ev d mX12_laysEdges (224, [some (vR (some (22, 0, a0))), some (vI x1), some (vI x2), some (vI x3), some (vI x4), some (vI x5), some (vI x6), some (vI x7), some (vI (x8 + 1))], [], (I, S)) r) : Ev d mX12_laysEdges (245, [some (vR (some (22, 0, a0))), some (vI x1), some (vI x2), some (vI x3), some (vI x4), some (vI x5), some (vI x6), some (vI x7), some (vI x8)], [], (I, S)) r :=
  s_iincp [some (vR (some (22, 0, a0))), some (vI x1), some (vI x2), some (vI x3), some (vI x4), some (vI x5), some (vI x6), some (vI x7), some (vI (x8 + 1))] rfl rfl ho1 rfl <|
  s_goto 224 rfl rfl k
theorem b_X12_laysEdges_251 {d : Nat} {r : PO × PM} {I : Nat → Nat → Int} {S : PS} {a0 : Nat} {x1 x2 x3 x4 x5 x6 x7 x8 : Int} (ho1 : -2147483648 ≤ x7 - 1 ∧ x7 - 1 ≤ 2147483647) (ho2 : -2147483648 ≤ x4 + (x7 - 1) ∧ x4 + (x7 - 1) ≤ 2147483647) (ho3 : -2147483648 ≤ x5 + 1 ∧ x5 + 1 ≤ 2147483647) (k : Ev d mX12_laysEdges (170, [some (vR (some (22, 0, a0))), some (vI x1), some (vI x2), some (vI x3), some (vI (x4 + (x7 - 1))), some (vI (x5 + 1)), none, none, none], [], (I, S)) r) : Ev d mX12_laysEdges (251, [some (vR (some (22, 0, a0))), some (vI x1), some (vI x2), some (vI x3), some (vI x4), some (vI x5), some (vI x6), some (vI x7), some (vI x8)], [], (I, S)) r :=
  s_iload rfl rfl rfl <|
  s_iload rfl rfl rfl <|
  s_iconst rfl rfl <|
  s_isubp rfl ho1 <|
  s_iaddp rfl ho2 <|
  s_istore [some (vR (some (22, 0, a0))), some (vI x1), some (vI x2), some (vI x3), some (vI (x4 + (x7 - 1))), some (vI x5), some (vI x6), some (vI x7), some (vI x8)] rfl rfl <|
  s_iincp [some (vR (some (22, 0, a0))), some (vI x1), some (vI x2), some (vI x3), some (vI (x4 + (x7 - 1))), some (vI (x5 + 1)), some (vI x6), some (vI x7), some (vI x8)] rfl rfl ho3 rfl <|
  s_goto 170 rfl rfl (ev_forget [false, false, false, false, false, false, true, true, true] rfl k)
theorem b_X12_laysEdges_266 {d : Nat} {I : Nat → Nat → Int} {S : PS} {a0 : Nat} {x1 x2 x3 x4 x5 : Int} : Ev d mX12_laysEdges (266, [some (vR (some (22, 0, a0))), some (vI x1), some (vI x2), some (vI x3), some (vI x4), some (vI x5), none, none, none], [], (I, S)) (.inl none, (I, S)) :=
  s_vret rfl rfl
theorem b_X12_readsPiece_0 {d : Nat} {r : PO × PM} {I : Nat → Nat → Int} {S : PS} {a0 p1 q1 : Nat} {I1 : Nat → Nat → Int} {S1 : PS} {z : Int} (hr1 : S.1 a0 22 = some (0, q1, p1)) (ho2 : -2147483648 ≤ 20 * (I a0 16) ∧ 20 * (I a0 16) ≤ 2147483647) (c : Ca d mX12_number [vR (some (22, 0, a0)), vI 5, vI 7] (I, S) (.inl (some (vI z))) (I1, S1)) (k : Ev (d + 1) mX12_readsPiece (20, [some (vR (some (22, 0, a0))), some (vI (I a0 16)), none, none], [vI z, vI (20 * (I a0 16)), vR (some (0, q1, p1))], (I1, S1)) r) : Ev (d + 1) mX12_readsPiece (0, [some (vR (some (22, 0, a0))), none, none, none], [], (I, S)) r :=
  s_aload_n rfl rfl rfl <|
  s_getI rfl rfl rfl <|
  s_istore_n [some (vR (some (22, 0, a0))), some (vI (I a0 16)), none, none] rfl rfl <|
  s_aload_n rfl rfl rfl <|
  s_getR rfl rfl rfl hr1 <|
  s_bipush rfl rfl <|
  s_iload_n rfl rfl rfl <|
  s_imulp rfl ho2 <|
  s_aload_n rfl rfl rfl <|
  s_iconst rfl rfl <|
  s_bipush rfl rfl <|
  s_cvI rfl rfl rfl rfl rfl c k
theorem b_X12_readsPiece_20 {d : Nat} {r : PO × PM} {I : Nat → Nat → Int} {S : PS} {a0 ns0 as0 p2 q2 : Nat} {x1 xs1 xs2 : Int} (hi1 : 0 ≤ xs1 ∧ xs1 < (ns0 : Nat)) (hr2 : S.1 a0 22 = some (0, q2, p2)) (ho3 : -2147483648 ≤ 20 * x1 ∧ 20 * x1 ≤ 2147483647) (ho4 : -2147483648 ≤ (20 * x1) + 1 ∧ (20 * x1) + 1 ≤ 2147483647) (hi5 : 0 ≤ (20 * x1) + 1 ∧ (20 * x1) + 1 < (q2 : Nat)) (ho6 : -2147483648 ≤ 20 * x1 ∧ 20 * x1 ≤ 2147483647) (ho7 : -2147483648 ≤ (20 * x1) + 10 ∧ (20 * x1) + 10 ≤ 2147483647) (hi8 : 0 ≤ (20 * x1) + 10 ∧ (20 * x1) + 10 < (q2 : Nat)) (k : Ev d mX12_readsPiece (46, [some (vR (some (22, 0, a0))), some (vI x1), none, none], [], ((up2 (up2 (up2 I as0 (xs1.toNat) xs2) p2 (((20 * x1) + 1).toNat) 0) p2 (((20 * x1) + 10).toNat) 0), S)) r) : Ev d mX12_readsPiece (20, [some (vR (some (22, 0, a0))), some (vI x1), none, none], [vI xs2, vI xs1, vR (some (0, ns0, as0))], (I, S)) r :=
  s_iast rfl hi1 <|
  s_aload_n rfl rfl rfl <|
  s_getR rfl rfl rfl hr2 <|
  s_bipush rfl rfl <|
  s_iload_n rfl rfl rfl <|
  s_imulp rfl ho3 <|
  s_iconst rfl rfl <|
  s_iaddp rfl ho4 <|
  s_iconst rfl rfl <|
  s_iast rfl hi5 <|
  s_aload_n rfl rfl rfl <|
  s_getR rfl rfl rfl hr2 <|
  s_bipush rfl rfl <|
  s_iload_n rfl rfl rfl <|
  s_imulp rfl ho6 <|
  s_bipush rfl rfl <|
  s_iaddp rfl ho7 <|
  s_iconst rfl rfl <|
  s_iast rfl hi8 <|
  k
theorem b_X12_readsPiece_46 {d : Nat} {r : PO × PM} {I : Nat → Nat → Int} {S : PS} {a0 : Nat} {x1 z : Int} {I1 : Nat → Nat → Int} {S1 : PS} (c : Ca d mX12_isGood [vR (some (22, 0, a0))] (I, S) (.inl (some (vI z))) (I1, S1)) (k : Ev (d + 1) mX12_readsPiece (50, [some (vR (some (22, 0, a0))), some (vI x1), none, none], [vI z], (I1, S1)) r) : Ev (d + 1) mX12_readsPiece (46, [some (vR (some (22, 0, a0))), some (vI x1), none, none], [], (I, S)) r :=
  s_aload_n rfl rfl rfl <|
  s_cvI rfl rfl rfl rfl rfl c k
theorem b_X12_readsPiece_50 {d : Nat} {r : PO × PM} {I : Nat → Nat → Int} {S : PS} {a0 : Nat} {x1 xs0 : Int} (kt : xs0 = 0 → Ev d mX12_readsPiece (139, [some (vR (some (22, 0, a0))), some (vI x1), none, none], [], (I, S)) r) (kf : xs0 ≠ 0 → Ev d mX12_readsPiece (53, [some (vR (some (22, 0, a0))), some (vI x1), none, none], [], (I, S)) r) : Ev d mX12_readsPiece (50, [some (vR (some (22, 0, a0))), some (vI x1), none, none], [vI xs0], (I, S)) r :=
  s_if_eq 139 rfl rfl kt kf
theorem b_X12_readsPiece_53 {d : Nat} {r : PO × PM} {I : Nat → Nat → Int} {S : PS} {a0 : Nat} {x1 : Int} (kt : I a0 8 ≠ 2 → Ev d mX12_readsPiece (139, [some (vR (some (22, 0, a0))), some (vI x1), none, none], [], (I, S)) r) (kf : I a0 8 = 2 → Ev d mX12_readsPiece (61, [some (vR (some (22, 0, a0))), some (vI x1), none, none], [], (I, S)) r) : Ev d mX12_readsPiece (53, [some (vR (some (22, 0, a0))), some (vI x1), none, none], [], (I, S)) r :=
  s_aload_n rfl rfl rfl <|
  s_getI rfl rfl rfl <|
  s_iconst rfl rfl <|
  s_icmp_ne 139 rfl rfl kt kf
theorem b_X12_readsPiece_61 {d : Nat} {r : PO × PM} {I : Nat → Nat → Int} {S : PS} {a0 p1 q1 : Nat} {x1 : Int} (hr1 : S.1 a0 22 = some (0, q1, p1)) (ho2 : -2147483648 ≤ 20 * x1 ∧ 20 * x1 ≤ 2147483647) (ho3 : -2147483648 ≤ (20 * x1) + 1 ∧ (20 * x1) + 1 ≤ 2147483647) (hi4 : 0 ≤ (20 * x1) + 1 ∧ (20 * x1) + 1 < (q1 : Nat)) (ho5 : -2147483648 ≤ 20 * x1 ∧ 20 * x1 ≤ 2147483647) (hi6 : 0 ≤ 20 * x1 ∧ 20 * x1 < (q1 : Nat)) (kt : I p1 ((20 * x1) + 1).toNat ≠ I p1 (20 * x1).toNat → Ev d mX12_readsPiece (91, [some (vR (some (22, 0, a0))), some (vI x1), some (vI (I p1 ((20 * x1) + 1).toNat)), none], [], (I, S)) r) (kf : I p1 ((20 * x1) + 1).toNat = I p1 (20 * x1).toNat → Ev d mX12_readsPiece (86, [some (vR (some (22, 0, a0))), some (vI x1), some (vI (I p1 ((20 * x1) + 1).toNat)), none], [], (I, S)) r) : Ev d mX12_readsPiece (61, [some (vR (some (22, 0, a0))), some (vI x1), none, none], [], (I, S)) r :=
  s_aload_n rfl rfl rfl <|
  s_getR rfl rfl rfl hr1 <|
  s_bipush rfl rfl <|
  s_iload_n rfl rfl rfl <|
  s_imulp rfl ho2 <|
  s_iconst rfl rfl <|
  s_iaddp rfl ho3 <|
  s_iald rfl rfl hi4 <|
  s_istore_n [some (vR (some (22, 0, a0))), some (vI x1), some (vI (I p1 ((20 * x1) + 1).toNat)), none] rfl rfl <|
  s_iload_n rfl rfl rfl <|
  s_aload_n rfl rfl rfl <|
  s_getR rfl rfl rfl hr1 <|
  s_bipush rfl rfl <|
  s_iload_n rfl rfl rfl <|
  s_imulp rfl ho5 <|
  s_iald rfl rfl hi6 <|
  s_icmp_ne 91 rfl rfl kt kf
theorem b_X12_readsPiece_86 {d : Nat} {r : PO × PM} {I : Nat → Nat → Int} {S : PS} {a0 : Nat} {x1 x2 : Int} {I1 : Nat → Nat → Int} {S1 : PS} (c : Ca d mX12_wrong [vR (some (22, 0, a0)), vI 2] (I, S) (.inl none) (I1, S1)) (k : Ev (d + 1) mX12_readsPiece (91, [some (vR (some (22, 0, a0))), some (vI x1), some (vI x2), none], [], (I1, S1)) r) : Ev (d + 1) mX12_readsPiece (86, [some (vR (some (22, 0, a0))), some (vI x1), some (vI x2), none], [], (I, S)) r :=
  s_aload_n rfl rfl rfl <|
  s_iconst rfl rfl <|
  s_cvV rfl rfl rfl rfl rfl c k
theorem b_X12_readsPiece_91 {d : Nat} {r : PO × PM} {I : Nat → Nat → Int} {S : PS} {a0 : Nat} {x1 x2 z : Int} {I1 : Nat → Nat → Int} {S1 : PS} (c : Ca d mX12_number [vR (some (22, 0, a0)), vI 5, vI 9] (I, S) (.inl (some (vI z))) (I1, S1)) (k : Ev (d + 1) mX12_readsPiece (98, [some (vR (some (22, 0, a0))), some (vI x1), some (vI x2), none], [vI z], (I1, S1)) r) : Ev (d + 1) mX12_readsPiece (91, [some (vR (some (22, 0, a0))), some (vI x1), some (vI x2), none], [], (I, S)) r :=
  s_aload_n rfl rfl rfl <|
  s_iconst rfl rfl <|
  s_bipush rfl rfl <|
  s_cvI rfl rfl rfl rfl rfl c k
theorem b_X12_readsPiece_98 {d : Nat} {r : PO × PM} {I : Nat → Nat → Int} {S : PS} {a0 : Nat} {x1 x2 xs0 z : Int} {I1 : Nat → Nat → Int} {S1 : PS} (c : Ca d mX12_isGood [vR (some (22, 0, a0))] (I, S) (.inl (some (vI z))) (I1, S1)) (k : Ev (d + 1) mX12_readsPiece (103, [some (vR (some (22, 0, a0))), some (vI x1), some (vI x2), some (vI xs0)], [vI z], (I1, S1)) r) : Ev (d + 1) mX12_readsPiece (98, [some (vR (some (22, 0, a0))), some (vI x1), some (vI x2), none], [vI xs0], (I, S)) r :=
  s_istore_n [some (vR (some (22, 0, a0))), some (vI x1), some (vI x2), some (vI xs0)] rfl rfl <|
  s_aload_n rfl rfl rfl <|
  s_cvI rfl rfl rfl rfl rfl c k
theorem b_X12_readsPiece_103 {d : Nat} {r : PO × PM} {I : Nat → Nat → Int} {S : PS} {a0 : Nat} {x1 x2 x3 xs0 : Int} (kt : xs0 ≠ 0 → Ev d mX12_readsPiece (107, [some (vR (some (22, 0, a0))), some (vI x1), some (vI x2), some (vI x3)], [], (I, S)) r) (kf : xs0 = 0 → Ev d mX12_readsPiece (106, [some (vR (some (22, 0, a0))), some (vI x1), some (vI x2), some (vI x3)], [], (I, S)) r) : Ev d mX12_readsPiece (103, [some (vR (some (22, 0, a0))), some (vI x1), some (vI x2), some (vI x3)], [vI xs0], (I, S)) r :=
  s_if_ne 107 rfl rfl kt kf
theorem b_X12_readsPiece_106 {d : Nat} {I : Nat → Nat → Int} {S : PS} {a0 : Nat} {x1 x2 x3 : Int} : Ev d mX12_readsPiece (106, [some (vR (some (22, 0, a0))), some (vI x1), some (vI x2), some (vI x3)], [], (I, S)) (.inl none, (I, S)) :=
  s_vret rfl rfl
theorem b_X12_readsPiece_107 {d : Nat} {r : PO × PM} {I : Nat → Nat → Int} {S : PS} {a0 p1 q1 : Nat} {x1 x2 x3 : Int} (hr1 : S.1 a0 22 = some (0, q1, p1)) (ho2 : -2147483648 ≤ 20 * x1 ∧ 20 * x1 ≤ 2147483647) (ho3 : -2147483648 ≤ (20 * x1) + 2 ∧ (20 * x1) + 2 ≤ 2147483647) (ho4 : -2147483648 ≤ ((20 * x1) + 2) + x2 ∧ ((20 * x1) + 2) + x2 ≤ 2147483647) (hi5 : 0 ≤ ((20 * x1) + 2) + x2 ∧ ((20 * x1) + 2) + x2 < (q1 : Nat)) (ho6 : -2147483648 ≤ 20 * x1 ∧ 20 * x1 ≤ 2147483647) (ho7 : -2147483648 ≤ (20 * x1) + 1 ∧ (20 * x1) + 1 ≤ 2147483647) (hi8 : 0 ≤ (20 * x1) + 1 ∧ (20 * x1) + 1 < (q1 : Nat)) (ho9 : -2147483648 ≤ ((up2 I p1 ((((20 * x1) + 2) + x2).toNat) x3) p1 ((20 * x1) + 1).toNat) + 1 ∧ ((up2 I p1 ((((20 * x1) + 2) + x2).toNat) x3) p1 ((20 * x1) + 1).toNat) + 1 ≤ 2147483647) (hi10 : 0 ≤ (20 * x1) + 1 ∧ (20 * x1) + 1 < (q1 : Nat)) (k : Ev d mX12_readsPiece (46, [some (vR (some (22, 0, a0))), some (vI x1), none, none], [], ((up2 (up2 I p1 ((((20 * x1) + 2) + x2).toNat) x3) p1 (((20 * x1) + 1).toNat) (((up2 I p1 ((((20 * x1) + 2) + x2).toNat) x3) p1 ((20 * x1) + 1).toNat) + 1)), S)) r) : Ev d mX12_readsPiece (107, [some (vR (some (22, 0, a0))), some (vI x1), some (vI x2), some (vI x3)], [], (I, S)) r :=
  s_aload_n rfl rfl rfl <|
  s_getR rfl rfl rfl hr1 <|
  s_bipush rfl rfl <|
  s_iload_n rfl rfl rfl <|
  s_imulp rfl ho2 <|
  s_iconst rfl rfl <|
  s_iaddp rfl ho3 <|
  s_iload_n rfl rfl rfl <|
  s_iaddp rfl ho4 <|
  s_iload_n rfl rfl rfl <|
  s_iast rfl hi5 <|
  s_aload_n rfl rfl rfl <|
  s_getR rfl rfl rfl hr1 <|
  s_bipush rfl rfl <|
  s_iload_n rfl rfl rfl <|
  s_imulp rfl ho6 <|
  s_iconst rfl rfl <|
  s_iaddp rfl ho7 <|
  s_dup2 rfl rfl <|
  s_iald rfl rfl hi8 <|
  s_iconst rfl rfl <|
  s_iaddp rfl ho9 <|
  s_iast rfl hi10 <|
  s_goto 46 rfl rfl (ev_forget [false, false, true, true] rfl k)
theorem b_X12_readsPiece_139 {d : Nat} {r : PO × PM} {I : Nat → Nat → Int} {S : PS} {a0 : Nat} {x1 z : Int} {I1 : Nat → Nat → Int} {S1 : PS} (c : Ca d mX12_isGood [vR (some (22, 0, a0))] (I, S) (.inl (some (vI z))) (I1, S1)) (k : Ev (d + 1) mX12_readsPiece (143, [some (vR (some (22, 0, a0))), some (vI x1), none, none], [vI z], (I1, S1)) r) : Ev (d + 1) mX12_readsPiece (139, [some (vR (some (22, 0, a0))), some (vI x1), none, none], [], (I, S)) r :=
  s_aload_n rfl rfl rfl <|
  s_cvI rfl rfl rfl rfl rfl c k
theorem b_X12_readsPiece_143 {d : Nat} {r : PO × PM} {I : Nat → Nat → Int} {S : PS} {a0 : Nat} {x1 xs0 : Int} (kt : xs0 ≠ 0 → Ev d mX12_readsPiece (147, [some (vR (some (22, 0, a0))), some (vI x1), none, none], [], (I, S)) r) (kf : xs0 = 0 → Ev d mX12_readsPiece (146, [some (vR (some (22, 0, a0))), some (vI x1), none, none], [], (I, S)) r) : Ev d mX12_readsPiece (143, [some (vR (some (22, 0, a0))), some (vI x1), none, none], [vI xs0], (I, S)) r :=
  s_if_ne 147 rfl rfl kt kf
theorem b_X12_readsPiece_146 {d : Nat} {I : Nat → Nat → Int} {S : PS} {a0 : Nat} {x1 : Int} : Ev d mX12_readsPiece (146, [some (vR (some (22, 0, a0))), some (vI x1), none, none], [], (I, S)) (.inl none, (I, S)) :=
  s_vret rfl rfl
theorem b_X12_readsPiece_147 {d : Nat} {r : PO × PM} {I : Nat → Nat → Int} {S : PS} {a0 : Nat} {x1 : Int} (kt : I a0 8 ≠ 3 → Ev d mX12_readsPiece (173, [some (vR (some (22, 0, a0))), some (vI x1), none, none], [], (I, S)) r) (kf : I a0 8 = 3 → Ev d mX12_readsPiece (155, [some (vR (some (22, 0, a0))), some (vI x1), none, none], [], (I, S)) r) : Ev d mX12_readsPiece (147, [some (vR (some (22, 0, a0))), some (vI x1), none, none], [], (I, S)) r :=
  s_aload_n rfl rfl rfl <|
  s_getI rfl rfl rfl <|
  s_iconst rfl rfl <|
  s_icmp_ne 173 rfl rfl kt kf
theorem b_X12_readsPiece_155 {d : Nat} {r : PO × PM} {I : Nat → Nat → Int} {S : PS} {a0 p1 q1 : Nat} {x1 z : Int} {I1 : Nat → Nat → Int} {S1 : PS} (hr1 : S.1 a0 22 = some (0, q1, p1)) (c : Ca d mX12_ringOf [vR (some (0, q1, p1)), vI x1] (I, S) (.inl (some (vI z))) (I1, S1)) (k : Ev (d + 1) mX12_readsPiece (163, [some (vR (some (22, 0, a0))), some (vI x1), none, none], [vI z], (I1, S1)) r) : Ev (d + 1) mX12_readsPiece (155, [some (vR (some (22, 0, a0))), some (vI x1), none, none], [], (I, S)) r :=
  s_aload_n rfl rfl rfl <|
  s_getR rfl rfl rfl hr1 <|
  s_iload_n rfl rfl rfl <|
  s_csI rfl rfl rfl rfl rfl rfl c k
theorem b_X12_readsPiece_163 {d : Nat} {r : PO × PM} {I : Nat → Nat → Int} {S : PS} {a0 : Nat} {x1 xs0 : Int} (kt : xs0 ≤ 7 → Ev d mX12_readsPiece (173, [some (vR (some (22, 0, a0))), some (vI x1), none, none], [], (I, S)) r) (kf : 7 < xs0 → Ev d mX12_readsPiece (168, [some (vR (some (22, 0, a0))), some (vI x1), none, none], [], (I, S)) r) : Ev d mX12_readsPiece (163, [some (vR (some (22, 0, a0))), some (vI x1), none, none], [vI xs0], (I, S)) r :=
  s_bipush rfl rfl <|
  s_icmp_le 173 rfl rfl kt kf
theorem b_X12_readsPiece_168 {d : Nat} {r : PO × PM} {I : Nat → Nat → Int} {S : PS} {a0 : Nat} {x1 : Int} {I1 : Nat → Nat → Int} {S1 : PS} (c : Ca d mX12_wrong [vR (some (22, 0, a0)), vI 2] (I, S) (.inl none) (I1, S1)) (k : Ev (d + 1) mX12_readsPiece (173, [some (vR (some (22, 0, a0))), some (vI x1), none, none], [], (I1, S1)) r) : Ev (d + 1) mX12_readsPiece (168, [some (vR (some (22, 0, a0))), some (vI x1), none, none], [], (I, S)) r :=
  s_aload_n rfl rfl rfl <|
  s_iconst rfl rfl <|
  s_cvV rfl rfl rfl rfl rfl c k
theorem b_X12_readsPiece_173 {d : Nat} {r : PO × PM} {I : Nat → Nat → Int} {S : PS} {a0 : Nat} {x1 : Int} (kt : I a0 8 = 3 → Ev d mX12_readsPiece (186, [some (vR (some (22, 0, a0))), some (vI x1), none, none], [], (I, S)) r) (kf : I a0 8 ≠ 3 → Ev d mX12_readsPiece (181, [some (vR (some (22, 0, a0))), some (vI x1), none, none], [], (I, S)) r) : Ev d mX12_readsPiece (173, [some (vR (some (22, 0, a0))), some (vI x1), none, none], [], (I, S)) r :=
  s_aload_n rfl rfl rfl <|
  s_getI rfl rfl rfl <|
  s_iconst rfl rfl <|
  s_icmp_eq 186 rfl rfl kt kf
theorem b_X12_readsPiece_181 {d : Nat} {r : PO × PM} {I : Nat → Nat → Int} {S : PS} {a0 : Nat} {x1 : Int} {I1 : Nat → Nat → Int} {S1 : PS} (c : Ca d mX12_wrong [vR (some (22, 0, a0)), vI 1] (I, S) (.inl none) (I1, S1)) (k : Ev (d + 1) mX12_readsPiece (186, [some (vR (some (22, 0, a0))), some (vI x1), none, none], [], (I1, S1)) r) : Ev (d + 1) mX12_readsPiece (181, [some (vR (some (22, 0, a0))), some (vI x1), none, none], [], (I, S)) r :=
  s_aload_n rfl rfl rfl <|
  s_iconst rfl rfl <|
  s_cvV rfl rfl rfl rfl rfl c k
theorem b_X12_readsPiece_186 {d : Nat} {r : PO × PM} {I : Nat → Nat → Int} {S : PS} {a0 : Nat} {x1 z : Int} {I1 : Nat → Nat → Int} {S1 : PS} (c : Ca d mX12_isGood [vR (some (22, 0, a0))] (I, S) (.inl (some (vI z))) (I1, S1)) (k : Ev (d + 1) mX12_readsPiece (190, [some (vR (some (22, 0, a0))), some (vI x1), none, none], [vI z], (I1, S1)) r) : Ev (d + 1) mX12_readsPiece (186, [some (vR (some (22, 0, a0))), some (vI x1), none, none], [], (I, S)) r :=
  s_aload_n rfl rfl rfl <|
  s_cvI rfl rfl rfl rfl rfl c k
theorem b_X12_readsPiece_190 {d : Nat} {r : PO × PM} {I : Nat → Nat → Int} {S : PS} {a0 : Nat} {x1 xs0 : Int} (kt : xs0 ≠ 0 → Ev d mX12_readsPiece (194, [some (vR (some (22, 0, a0))), some (vI x1), none, none], [], (I, S)) r) (kf : xs0 = 0 → Ev d mX12_readsPiece (193, [some (vR (some (22, 0, a0))), some (vI x1), none, none], [], (I, S)) r) : Ev d mX12_readsPiece (190, [some (vR (some (22, 0, a0))), some (vI x1), none, none], [vI xs0], (I, S)) r :=
  s_if_ne 194 rfl rfl kt kf
theorem b_X12_readsPiece_193 {d : Nat} {I : Nat → Nat → Int} {S : PS} {a0 : Nat} {x1 : Int} : Ev d mX12_readsPiece (193, [some (vR (some (22, 0, a0))), some (vI x1), none, none], [], (I, S)) (.inl none, (I, S)) :=
  s_vret rfl rfl
theorem b_X12_readsPiece_194 {d : Nat} {r : PO × PM} {I : Nat → Nat → Int} {S : PS} {a0 p1 q1 : Nat} {x1 z : Int} {I1 : Nat → Nat → Int} {S1 : PS} (hr1 : S.1 a0 22 = some (0, q1, p1)) (ho2 : -2147483648 ≤ 20 * x1 ∧ 20 * x1 ≤ 2147483647) (ho3 : -2147483648 ≤ (20 * x1) + 9 ∧ (20 * x1) + 9 ≤ 2147483647) (c : Ca d mX12_ringOf [vR (some (0, q1, p1)), vI x1] (I, S) (.inl (some (vI z))) (I1, S1)) (k : Ev (d + 1) mX12_readsPiece (213, [some (vR (some (22, 0, a0))), some (vI x1), none, none], [vI z, vI ((20 * x1) + 9), vR (some (0, q1, p1))], (I1, S1)) r) : Ev (d + 1) mX12_readsPiece (194, [some (vR (some (22, 0, a0))), some (vI x1), none, none], [], (I, S)) r :=
  s_aload_n rfl rfl rfl <|
  s_getR rfl rfl rfl hr1 <|
  s_bipush rfl rfl <|
  s_iload_n rfl rfl rfl <|
  s_imulp rfl ho2 <|
  s_bipush rfl rfl <|
  s_iaddp rfl ho3 <|
  s_aload_n rfl rfl rfl <|
  s_getR rfl rfl rfl hr1 <|
  s_iload_n rfl rfl rfl <|
  s_csI rfl rfl rfl rfl rfl rfl c k
theorem b_X12_readsPiece_213 {d : Nat} {r : PO × PM} {I : Nat → Nat → Int} {S : PS} {a0 ns0 as0 : Nat} {x1 xs1 xs2 : Int} {I1 : Nat → Nat → Int} {S1 : PS} (hi1 : 0 ≤ xs1 ∧ xs1 < (ns0 : Nat)) (c : Ca d mX12_laysEdges [vR (some (22, 0, a0)), vI x1] ((up2 I as0 (xs1.toNat) xs2), S) (.inl none) (I1, S1)) (k : Ev (d + 1) mX12_readsPiece (219, [some (vR (some (22, 0, a0))), some (vI x1), none, none], [], (I1, S1)) r) : Ev (d + 1) mX12_readsPiece (213, [some (vR (some (22, 0, a0))), some (vI x1), none, none], [vI xs2, vI xs1, vR (some (0, ns0, as0))], (I, S)) r :=
  s_iast rfl hi1 <|
  s_aload_n rfl rfl rfl <|
  s_iload_n rfl rfl rfl <|
  s_cvV rfl rfl rfl rfl rfl c k
theorem b_X12_readsPiece_219 {d : Nat} {I : Nat → Nat → Int} {S : PS} {a0 : Nat} {x1 : Int} (ho1 : -2147483648 ≤ I a0 16 + 1 ∧ I a0 16 + 1 ≤ 2147483647) : Ev d mX12_readsPiece (219, [some (vR (some (22, 0, a0))), some (vI x1), none, none], [], (I, S)) (.inl none, ((up2 I a0 16 (I a0 16 + 1)), S)) :=
  s_aload_n rfl rfl rfl <|
  s_dup rfl rfl <|
  s_getI rfl rfl rfl <|
  s_iconst rfl rfl <|
  s_iaddp rfl ho1 <|
  s_putI rfl rfl rfl <|
  s_vret rfl rfl
theorem b_X12_readsJoin_0 {d : Nat} {r : PO × PM} {I : Nat → Nat → Int} {S : PS} {a0 p2 q2 : Nat} {I1 : Nat → Nat → Int} {S1 : PS} {z : Int} (ho1 : -2147483648 ≤ I a0 16 - 1 ∧ I a0 16 - 1 ≤ 2147483647) (hr2 : S.1 a0 22 = some (0, q2, p2)) (ho3 : -2147483648 ≤ 20 * (I a0 16 - 1) ∧ 20 * (I a0 16 - 1) ≤ 2147483647) (ho4 : -2147483648 ≤ (20 * (I a0 16 - 1)) + 9 ∧ (20 * (I a0 16 - 1)) + 9 ≤ 2147483647) (hi5 : 0 ≤ (20 * (I a0 16 - 1)) + 9 ∧ (20 * (I a0 16 - 1)) + 9 < (q2 : Nat)) (ho6 : -2147483648 ≤ (I p2 ((20 * (I a0 16 - 1)) + 9).toNat) + 1 ∧ (I p2 ((20 * (I a0 16 - 1)) + 9).toNat) + 1 ≤ 2147483647) (ho7 : -2147483648 ≤ 20 * (I a0 16 - 1) ∧ 20 * (I a0 16 - 1) ≤ 2147483647) (ho8 : -2147483648 ≤ (20 * (I a0 16 - 1)) + 1 ∧ (20 * (I a0 16 - 1)) + 1 ≤ 2147483647) (hi9 : 0 ≤ (20 * (I a0 16 - 1)) + 1 ∧ (20 * (I a0 16 - 1)) + 1 < (q2 : Nat)) (ho10 : -2147483648 ≤ ((I p2 ((20 * (I a0 16 - 1)) + 9).toNat) + 1) + (I p2 ((20 * (I a0 16 - 1)) + 1).toNat) ∧ ((I p2 ((20 * (I a0 16 - 1)) + 9).toNat) + 1) + (I p2 ((20 * (I a0 16 - 1)) + 1).toNat) ≤ 2147483647) (ho11 : -2147483648 ≤ 20 * (I a0 16 - 1) ∧ 20 * (I a0 16 - 1) ≤ 2147483647) (ho12 : -2147483648 ≤ (20 * (I a0 16 - 1)) + 10 ∧ (20 * (I a0 16 - 1)) + 10 ≤ 2147483647) (hi13 : 0 ≤ (20 * (I a0 16 - 1)) + 10 ∧ (20 * (I a0 16 - 1)) + 10 < (q2 : Nat)) (c : Ca d mX12_numberHere [vR (some (22, 0, a0)), vI 0, vI 9999] (I, S) (.inl (some (vI z))) (I1, S1)) (k : Ev (d + 1) mX12_readsJoin (58, [some (vR (some (22, 0, a0))), some (vI (I a0 16 - 1)), some (vI (I p2 ((20 * (I a0 16 - 1)) + 9).toNat)), some (vI (((I p2 ((20 * (I a0 16 - 1)) + 9).toNat) + 1) + (I p2 ((20 * (I a0 16 - 1)) + 1).toNat))), some (vI (I p2 ((20 * (I a0 16 - 1)) + 10).toNat)), none, none, none, none, none, none], [vI z], (I1, S1)) r) : Ev (d + 1) mX12_readsJoin (0, [some (vR (some (22, 0, a0))), none, none, none, none, none, none, none, none, none, none], [], (I, S)) r :=
  s_aload_n rfl rfl rfl <|
  s_getI rfl rfl rfl <|
  s_iconst rfl rfl <|
  s_isubp rfl ho1 <|
  s_istore_n [some (vR (some (22, 0, a0))), some (vI (I a0 16 - 1)), none, none, none, none, none, none, none, none, none] rfl rfl <|
  s_aload_n rfl rfl rfl <|
  s_getR rfl rfl rfl hr2 <|
  s_bipush rfl rfl <|
  s_iload_n rfl rfl rfl <|
  s_imulp rfl ho3 <|
  s_bipush rfl rfl <|
  s_iaddp rfl ho4 <|
  s_iald rfl rfl hi5 <|
  s_istore_n [some (vR (some (22, 0, a0))), some (vI (I a0 16 - 1)), some (vI (I p2 ((20 * (I a0 16 - 1)) + 9).toNat)), none, none, none, none, none, none, none, none] rfl rfl <|
  s_iload_n rfl rfl rfl <|
  s_iconst rfl rfl <|
  s_iaddp rfl ho6 <|
  s_aload_n rfl rfl rfl <|
  s_getR rfl rfl rfl hr2 <|
  s_bipush rfl rfl <|
  s_iload_n rfl rfl rfl <|
  s_imulp rfl ho7 <|
  s_iconst rfl rfl <|
  s_iaddp rfl ho8 <|
  s_iald rfl rfl hi9 <|
  s_iaddp rfl ho10 <|
  s_istore_n [some (vR (some (22, 0, a0))), some (vI (I a0 16 - 1)), some (vI (I p2 ((20 * (I a0 16 - 1)) + 9).toNat)), some (vI (((I p2 ((20 * (I a0 16 - 1)) + 9).toNat) + 1) + (I p2 ((20 * (I a0 16 - 1)) + 1).toNat))), none, none, none, none, none, none, none] rfl rfl <|
  s_aload_n rfl rfl rfl <|
  s_getR rfl rfl rfl hr2 <|
  s_bipush rfl rfl <|
  s_iload_n rfl rfl rfl <|
  s_imulp rfl ho11 <|
  s_bipush rfl rfl <|
  s_iaddp rfl ho12 <|
  s_iald rfl rfl hi13 <|
  s_istore [some (vR (some (22, 0, a0))), some (vI (I a0 16 - 1)), some (vI (I p2 ((20 * (I a0 16 - 1)) + 9).toNat)), some (vI (((I p2 ((20 * (I a0 16 - 1)) + 9).toNat) + 1) + (I p2 ((20 * (I a0 16 - 1)) + 1).toNat))), some (vI (I p2 ((20 * (I a0 16 - 1)) + 10).toNat)), none, none, none, none, none, none] rfl rfl <|
  s_aload_n rfl rfl rfl <|
  s_iconst rfl rfl <|
  s_sipush rfl rfl <|
  s_cvI rfl rfl rfl rfl rfl c k
theorem b_X12_readsJoin_58 {d : Nat} {r : PO × PM} {I : Nat → Nat → Int} {S : PS} {a0 : Nat} {x1 x2 x3 x4 xs0 z : Int} {I1 : Nat → Nat → Int} {S1 : PS} (c : Ca d mX12_isGood [vR (some (22, 0, a0))] (I, S) (.inl (some (vI z))) (I1, S1)) (k : Ev (d + 1) mX12_readsJoin (64, [some (vR (some (22, 0, a0))), some (vI x1), some (vI x2), some (vI x3), some (vI x4), some (vI xs0), none, none, none, none, none], [vI z], (I1, S1)) r) : Ev (d + 1) mX12_readsJoin (58, [some (vR (some (22, 0, a0))), some (vI x1), some (vI x2), some (vI x3), some (vI x4), none, none, none, none, none, none], [vI xs0], (I, S)) r :=
  s_istore [some (vR (some (22, 0, a0))), some (vI x1), some (vI x2), some (vI x3), some (vI x4), some (vI xs0), none, none, none, none, none] rfl rfl <|
  s_aload_n rfl rfl rfl <|
  s_cvI rfl rfl rfl rfl rfl c k
theorem b_X12_readsJoin_64 {d : Nat} {r : PO × PM} {I : Nat → Nat → Int} {S : PS} {a0 : Nat} {x1 x2 x3 x4 x5 xs0 : Int} (kt : xs0 = 0 → Ev d mX12_readsJoin (78, [some (vR (some (22, 0, a0))), some (vI x1), some (vI x2), some (vI x3), some (vI x4), some (vI x5), none, none, none, none, none], [], (I, S)) r) (kf : xs0 ≠ 0 → Ev d mX12_readsJoin (67, [some (vR (some (22, 0, a0))), some (vI x1), some (vI x2), some (vI x3), some (vI x4), some (vI x5), none, none, none, none, none], [], (I, S)) r) : Ev d mX12_readsJoin (64, [some (vR (some (22, 0, a0))), some (vI x1), some (vI x2), some (vI x3), some (vI x4), some (vI x5), none, none, none, none, none], [vI xs0], (I, S)) r :=
  s_if_eq 78 rfl rfl kt kf
theorem b_X12_readsJoin_67 {d : Nat} {r : PO × PM} {I : Nat → Nat → Int} {S : PS} {a0 : Nat} {x1 x2 x3 x4 x5 : Int} (kt : x5 < x3 → Ev d mX12_readsJoin (78, [some (vR (some (22, 0, a0))), some (vI x1), some (vI x2), some (vI x3), some (vI x4), some (vI x5), none, none, none, none, none], [], (I, S)) r) (kf : x3 ≤ x5 → Ev d mX12_readsJoin (73, [some (vR (some (22, 0, a0))), some (vI x1), some (vI x2), some (vI x3), some (vI x4), some (vI x5), none, none, none, none, none], [], (I, S)) r) : Ev d mX12_readsJoin (67, [some (vR (some (22, 0, a0))), some (vI x1), some (vI x2), some (vI x3), some (vI x4), some (vI x5), none, none, none, none, none], [], (I, S)) r :=
  s_iload rfl rfl rfl <|
  s_iload_n rfl rfl rfl <|
  s_icmp_lt 78 rfl rfl kt kf
theorem b_X12_readsJoin_73 {d : Nat} {r : PO × PM} {I : Nat → Nat → Int} {S : PS} {a0 : Nat} {x1 x2 x3 x4 x5 : Int} {I1 : Nat → Nat → Int} {S1 : PS} (c : Ca d mX12_wrong [vR (some (22, 0, a0)), vI 3] (I, S) (.inl none) (I1, S1)) (k : Ev (d + 1) mX12_readsJoin (78, [some (vR (some (22, 0, a0))), some (vI x1), some (vI x2), some (vI x3), some (vI x4), some (vI x5), none, none, none, none, none], [], (I1, S1)) r) : Ev (d + 1) mX12_readsJoin (73, [some (vR (some (22, 0, a0))), some (vI x1), some (vI x2), some (vI x3), some (vI x4), some (vI x5), none, none, none, none, none], [], (I, S)) r :=
  s_aload_n rfl rfl rfl <|
  s_iconst rfl rfl <|
  s_cvV rfl rfl rfl rfl rfl c k
theorem b_X12_readsJoin_78 {d : Nat} {r : PO × PM} {I : Nat → Nat → Int} {S : PS} {a0 : Nat} {x1 x2 x3 x4 x5 z : Int} {I1 : Nat → Nat → Int} {S1 : PS} (c : Ca d mX12_isGood [vR (some (22, 0, a0))] (I, S) (.inl (some (vI z))) (I1, S1)) (k : Ev (d + 1) mX12_readsJoin (82, [some (vR (some (22, 0, a0))), some (vI x1), some (vI x2), some (vI x3), some (vI x4), some (vI x5), none, none, none, none, none], [vI z], (I1, S1)) r) : Ev (d + 1) mX12_readsJoin (78, [some (vR (some (22, 0, a0))), some (vI x1), some (vI x2), some (vI x3), some (vI x4), some (vI x5), none, none, none, none, none], [], (I, S)) r :=
  s_aload_n rfl rfl rfl <|
  s_cvI rfl rfl rfl rfl rfl c k
theorem b_X12_readsJoin_82 {d : Nat} {r : PO × PM} {I : Nat → Nat → Int} {S : PS} {a0 : Nat} {x1 x2 x3 x4 x5 xs0 : Int} (kt : xs0 ≠ 0 → Ev d mX12_readsJoin (86, [some (vR (some (22, 0, a0))), some (vI x1), some (vI x2), some (vI x3), some (vI x4), some (vI x5), none, none, none, none, none], [], (I, S)) r) (kf : xs0 = 0 → Ev d mX12_readsJoin (85, [some (vR (some (22, 0, a0))), some (vI x1), some (vI x2), some (vI x3), some (vI x4), some (vI x5), none, none, none, none, none], [], (I, S)) r) : Ev d mX12_readsJoin (82, [some (vR (some (22, 0, a0))), some (vI x1), some (vI x2), some (vI x3), some (vI x4), some (vI x5), none, none, none, none, none], [vI xs0], (I, S)) r :=
  s_if_ne 86 rfl rfl kt kf
theorem b_X12_readsJoin_85 {d : Nat} {I : Nat → Nat → Int} {S : PS} {a0 : Nat} {x1 x2 x3 x4 x5 : Int} : Ev d mX12_readsJoin (85, [some (vR (some (22, 0, a0))), some (vI x1), some (vI x2), some (vI x3), some (vI x4), some (vI x5), none, none, none, none, none], [], (I, S)) (.inl none, (I, S)) :=
  s_vret rfl rfl
theorem b_X12_readsJoin_86 {d : Nat} {r : PO × PM} {I : Nat → Nat → Int} {S : PS} {a0 : Nat} {x1 x2 x3 x4 x5 : Int} {I1 : Nat → Nat → Int} {S1 : PS} (c : Ca d mX12_goes [vR (some (22, 0, a0))] (I, S) (.inl none) (I1, S1)) (k : Ev (d + 1) mX12_readsJoin (90, [some (vR (some (22, 0, a0))), some (vI x1), some (vI x2), some (vI x3), some (vI x4), some (vI x5), none, none, none, none, none], [], (I1, S1)) r) : Ev (d + 1) mX12_readsJoin (86, [some (vR (some (22, 0, a0))), some (vI x1), some (vI x2), some (vI x3), some (vI x4), some (vI x5), none, none, none, none, none], [], (I, S)) r :=
  s_aload_n rfl rfl rfl <|
  s_cvV rfl rfl rfl rfl rfl c k
theorem b_X12_readsJoin_90 {d : Nat} {r : PO × PM} {I : Nat → Nat → Int} {S : PS} {a0 : Nat} {x1 x2 x3 x4 x5 z : Int} {I1 : Nat → Nat → Int} {S1 : PS} (c : Ca d mX12_numberHere [vR (some (22, 0, a0)), vI 0, vI 9999] (I, S) (.inl (some (vI z))) (I1, S1)) (k : Ev (d + 1) mX12_readsJoin (98, [some (vR (some (22, 0, a0))), some (vI x1), some (vI x2), some (vI x3), some (vI x4), some (vI x5), none, none, none, none, none], [vI z], (I1, S1)) r) : Ev (d + 1) mX12_readsJoin (90, [some (vR (some (22, 0, a0))), some (vI x1), some (vI x2), some (vI x3), some (vI x4), some (vI x5), none, none, none, none, none], [], (I, S)) r :=
  s_aload_n rfl rfl rfl <|
  s_iconst rfl rfl <|
  s_sipush rfl rfl <|
  s_cvI rfl rfl rfl rfl rfl c k
theorem b_X12_readsJoin_98 {d : Nat} {r : PO × PM} {I : Nat → Nat → Int} {S : PS} {a0 : Nat} {x1 x2 x3 x4 x5 xs0 z : Int} {I1 : Nat → Nat → Int} {S1 : PS} (c : Ca d mX12_isGood [vR (some (22, 0, a0))] (I, S) (.inl (some (vI z))) (I1, S1)) (k : Ev (d + 1) mX12_readsJoin (104, [some (vR (some (22, 0, a0))), some (vI x1), some (vI x2), some (vI x3), some (vI x4), some (vI x5), some (vI xs0), none, none, none, none], [vI z], (I1, S1)) r) : Ev (d + 1) mX12_readsJoin (98, [some (vR (some (22, 0, a0))), some (vI x1), some (vI x2), some (vI x3), some (vI x4), some (vI x5), none, none, none, none, none], [vI xs0], (I, S)) r :=
  s_istore [some (vR (some (22, 0, a0))), some (vI x1), some (vI x2), some (vI x3), some (vI x4), some (vI x5), some (vI xs0), none, none, none, none] rfl rfl <|
  s_aload_n rfl rfl rfl <|
  s_cvI rfl rfl rfl rfl rfl c k
theorem b_X12_readsJoin_104 {d : Nat} {r : PO × PM} {I : Nat → Nat → Int} {S : PS} {a0 : Nat} {x1 x2 x3 x4 x5 x6 xs0 : Int} (kt : xs0 = 0 → Ev d mX12_readsJoin (118, [some (vR (some (22, 0, a0))), some (vI x1), some (vI x2), some (vI x3), some (vI x4), some (vI x5), some (vI x6), none, none, none, none], [], (I, S)) r) (kf : xs0 ≠ 0 → Ev d mX12_readsJoin (107, [some (vR (some (22, 0, a0))), some (vI x1), some (vI x2), some (vI x3), some (vI x4), some (vI x5), some (vI x6), none, none, none, none], [], (I, S)) r) : Ev d mX12_readsJoin (104, [some (vR (some (22, 0, a0))), some (vI x1), some (vI x2), some (vI x3), some (vI x4), some (vI x5), some (vI x6), none, none, none, none], [vI xs0], (I, S)) r :=
  s_if_eq 118 rfl rfl kt kf
theorem b_X12_readsJoin_107 {d : Nat} {r : PO × PM} {I : Nat → Nat → Int} {S : PS} {a0 : Nat} {x1 x2 x3 x4 x5 x6 : Int} (kt : x6 < x3 → Ev d mX12_readsJoin (118, [some (vR (some (22, 0, a0))), some (vI x1), some (vI x2), some (vI x3), some (vI x4), some (vI x5), some (vI x6), none, none, none, none], [], (I, S)) r) (kf : x3 ≤ x6 → Ev d mX12_readsJoin (113, [some (vR (some (22, 0, a0))), some (vI x1), some (vI x2), some (vI x3), some (vI x4), some (vI x5), some (vI x6), none, none, none, none], [], (I, S)) r) : Ev d mX12_readsJoin (107, [some (vR (some (22, 0, a0))), some (vI x1), some (vI x2), some (vI x3), some (vI x4), some (vI x5), some (vI x6), none, none, none, none], [], (I, S)) r :=
  s_iload rfl rfl rfl <|
  s_iload_n rfl rfl rfl <|
  s_icmp_lt 118 rfl rfl kt kf
theorem b_X12_readsJoin_113 {d : Nat} {r : PO × PM} {I : Nat → Nat → Int} {S : PS} {a0 : Nat} {x1 x2 x3 x4 x5 x6 : Int} {I1 : Nat → Nat → Int} {S1 : PS} (c : Ca d mX12_wrong [vR (some (22, 0, a0)), vI 3] (I, S) (.inl none) (I1, S1)) (k : Ev (d + 1) mX12_readsJoin (118, [some (vR (some (22, 0, a0))), some (vI x1), some (vI x2), some (vI x3), some (vI x4), some (vI x5), some (vI x6), none, none, none, none], [], (I1, S1)) r) : Ev (d + 1) mX12_readsJoin (113, [some (vR (some (22, 0, a0))), some (vI x1), some (vI x2), some (vI x3), some (vI x4), some (vI x5), some (vI x6), none, none, none, none], [], (I, S)) r :=
  s_aload_n rfl rfl rfl <|
  s_iconst rfl rfl <|
  s_cvV rfl rfl rfl rfl rfl c k
theorem b_X12_readsJoin_118 {d : Nat} {r : PO × PM} {I : Nat → Nat → Int} {S : PS} {a0 : Nat} {x1 x2 x3 x4 x5 x6 z : Int} {I1 : Nat → Nat → Int} {S1 : PS} (c : Ca d mX12_isGood [vR (some (22, 0, a0))] (I, S) (.inl (some (vI z))) (I1, S1)) (k : Ev (d + 1) mX12_readsJoin (122, [some (vR (some (22, 0, a0))), some (vI x1), some (vI x2), some (vI x3), some (vI x4), some (vI x5), some (vI x6), none, none, none, none], [vI z], (I1, S1)) r) : Ev (d + 1) mX12_readsJoin (118, [some (vR (some (22, 0, a0))), some (vI x1), some (vI x2), some (vI x3), some (vI x4), some (vI x5), some (vI x6), none, none, none, none], [], (I, S)) r :=
  s_aload_n rfl rfl rfl <|
  s_cvI rfl rfl rfl rfl rfl c k
theorem b_X12_readsJoin_122 {d : Nat} {r : PO × PM} {I : Nat → Nat → Int} {S : PS} {a0 : Nat} {x1 x2 x3 x4 x5 x6 xs0 : Int} (kt : xs0 ≠ 0 → Ev d mX12_readsJoin (126, [some (vR (some (22, 0, a0))), some (vI x1), some (vI x2), some (vI x3), some (vI x4), some (vI x5), some (vI x6), none, none, none, none], [], (I, S)) r) (kf : xs0 = 0 → Ev d mX12_readsJoin (125, [some (vR (some (22, 0, a0))), some (vI x1), some (vI x2), some (vI x3), some (vI x4), some (vI x5), some (vI x6), none, none, none, none], [], (I, S)) r) : Ev d mX12_readsJoin (122, [some (vR (some (22, 0, a0))), some (vI x1), some (vI x2), some (vI x3), some (vI x4), some (vI x5), some (vI x6), none, none, none, none], [vI xs0], (I, S)) r :=
  s_if_ne 126 rfl rfl kt kf
theorem b_X12_readsJoin_125 {d : Nat} {I : Nat → Nat → Int} {S : PS} {a0 : Nat} {x1 x2 x3 x4 x5 x6 : Int} : Ev d mX12_readsJoin (125, [some (vR (some (22, 0, a0))), some (vI x1), some (vI x2), some (vI x3), some (vI x4), some (vI x5), some (vI x6), none, none, none, none], [], (I, S)) (.inl none, (I, S)) :=
  s_vret rfl rfl
theorem b_X12_readsJoin_126 {d : Nat} {r : PO × PM} {I : Nat → Nat → Int} {S : PS} {a0 p1 q1 : Nat} {x1 x2 x3 x4 x5 x6 : Int} (hr1 : S.1 a0 26 = some (0, q1, p1)) (ho2 : -2147483648 ≤ 15 * x1 ∧ 15 * x1 ≤ 2147483647) (ho3 : -2147483648 ≤ (15 * x1) + x5 ∧ (15 * x1) + x5 ≤ 2147483647) (hi4 : 0 ≤ (15 * x1) + x5 ∧ (15 * x1) + x5 < (q1 : Nat)) (kt : p_and (p_shr (I p1 ((15 * x1) + x5).toNat) x6) 1 ≠ 1 → Ev d mX12_readsJoin (163, [some (vR (some (22, 0, a0))), some (vI x1), some (vI x2), some (vI x3), some (vI x4), some (vI x5), some (vI x6), none, none, none, none], [], (I, S)) r) (kf : p_and (p_shr (I p1 ((15 * x1) + x5).toNat) x6) 1 = 1 → Ev d mX12_readsJoin (147, [some (vR (some (22, 0, a0))), some (vI x1), some (vI x2), some (vI x3), some (vI x4), some (vI x5), some (vI x6), none, none, none, none], [], (I, S)) r) : Ev d mX12_readsJoin (126, [some (vR (some (22, 0, a0))), some (vI x1), some (vI x2), some (vI x3), some (vI x4), some (vI x5), some (vI x6), none, none, none, none], [], (I, S)) r :=
  s_aload_n rfl rfl rfl <|
  s_getR rfl rfl rfl hr1 <|
  s_bipush rfl rfl <|
  s_iload_n rfl rfl rfl <|
  s_imulp rfl ho2 <|
  s_iload rfl rfl rfl <|
  s_iaddp rfl ho3 <|
  s_iald rfl rfl hi4 <|
  s_iload rfl rfl rfl <|
  s_ishr rfl <|
  s_iconst rfl rfl <|
  s_iand rfl <|
  s_iconst rfl rfl <|
  s_icmp_ne 163 rfl rfl kt kf
theorem b_X12_readsJoin_147 {d : Nat} {r : PO × PM} {I : Nat → Nat → Int} {S : PS} {a0 : Nat} {x1 x2 x3 x4 x5 x6 : Int} (kt : x2 ≤ x5 → Ev d mX12_readsJoin (159, [some (vR (some (22, 0, a0))), some (vI x1), some (vI x2), some (vI x3), some (vI x4), some (vI x5), some (vI x6), none, none, none, none], [], (I, S)) r) (kf : x5 < x2 → Ev d mX12_readsJoin (153, [some (vR (some (22, 0, a0))), some (vI x1), some (vI x2), some (vI x3), some (vI x4), some (vI x5), some (vI x6), none, none, none, none], [], (I, S)) r) : Ev d mX12_readsJoin (147, [some (vR (some (22, 0, a0))), some (vI x1), some (vI x2), some (vI x3), some (vI x4), some (vI x5), some (vI x6), none, none, none, none], [], (I, S)) r :=
  s_iload rfl rfl rfl <|
  s_iload_n rfl rfl rfl <|
  s_icmp_ge 159 rfl rfl kt kf
theorem b_X12_readsJoin_153 {d : Nat} {r : PO × PM} {I : Nat → Nat → Int} {S : PS} {a0 : Nat} {x1 x2 x3 x4 x5 x6 : Int} (kt : x6 < x2 → Ev d mX12_readsJoin (163, [some (vR (some (22, 0, a0))), some (vI x1), some (vI x2), some (vI x3), some (vI x4), some (vI x5), some (vI x6), none, none, none, none], [], (I, S)) r) (kf : x2 ≤ x6 → Ev d mX12_readsJoin (159, [some (vR (some (22, 0, a0))), some (vI x1), some (vI x2), some (vI x3), some (vI x4), some (vI x5), some (vI x6), none, none, none, none], [], (I, S)) r) : Ev d mX12_readsJoin (153, [some (vR (some (22, 0, a0))), some (vI x1), some (vI x2), some (vI x3), some (vI x4), some (vI x5), some (vI x6), none, none, none, none], [], (I, S)) r :=
  s_iload rfl rfl rfl <|
  s_iload_n rfl rfl rfl <|
  s_icmp_lt 163 rfl rfl kt kf
theorem b_X12_readsJoin_159 {d : Nat} {r : PO × PM} {I : Nat → Nat → Int} {S : PS} {a0 : Nat} {x1 x2 x3 x4 x5 x6 : Int} (k : Ev d mX12_readsJoin (164, [some (vR (some (22, 0, a0))), some (vI x1), some (vI x2), some (vI x3), some (vI x4), some (vI x5), some (vI x6), none, none, none, none], [vI 1], (I, S)) r) : Ev d mX12_readsJoin (159, [some (vR (some (22, 0, a0))), some (vI x1), some (vI x2), some (vI x3), some (vI x4), some (vI x5), some (vI x6), none, none, none, none], [], (I, S)) r :=
  s_iconst rfl rfl <|
  s_goto 164 rfl rfl k
theorem b_X12_readsJoin_163 {d : Nat} {r : PO × PM} {I : Nat → Nat → Int} {S : PS} {a0 : Nat} {x1 x2 x3 x4 x5 x6 : Int} (k : Ev d mX12_readsJoin (164, [some (vR (some (22, 0, a0))), some (vI x1), some (vI x2), some (vI x3), some (vI x4), some (vI x5), some (vI x6), none, none, none, none], [vI 0], (I, S)) r) : Ev d mX12_readsJoin (163, [some (vR (some (22, 0, a0))), some (vI x1), some (vI x2), some (vI x3), some (vI x4), some (vI x5), some (vI x6), none, none, none, none], [], (I, S)) r :=
  s_iconst rfl rfl <|
  k
theorem b_X12_readsJoin_164 {d : Nat} {r : PO × PM} {I : Nat → Nat → Int} {S : PS} {a0 : Nat} {x1 x2 x3 x4 x5 x6 xs0 : Int} (k : Ev d mX12_readsJoin (169, [some (vR (some (22, 0, a0))), some (vI x1), some (vI x2), some (vI x3), some (vI x4), some (vI x5), some (vI x6), some (vI xs0), some (vI 0), none, none], [], (I, S)) r) : Ev d mX12_readsJoin (164, [some (vR (some (22, 0, a0))), some (vI x1), some (vI x2), some (vI x3), some (vI x4), some (vI x5), some (vI x6), none, none, none, none], [vI xs0], (I, S)) r :=
  s_istore [some (vR (some (22, 0, a0))), some (vI x1), some (vI x2), some (vI x3), some (vI x4), some (vI x5), some (vI x6), some (vI xs0), none, none, none] rfl rfl <|
  s_iconst rfl rfl <|
  s_istore [some (vR (some (22, 0, a0))), some (vI x1), some (vI x2), some (vI x3), some (vI x4), some (vI x5), some (vI x6), some (vI xs0), some (vI 0), none, none] rfl rfl <|
  k
theorem b_X12_readsJoin_169 {d : Nat} {r : PO × PM} {I : Nat → Nat → Int} {S : PS} {a0 : Nat} {x1 x2 x3 x4 x5 x6 x7 x8 : Int} (kt : x4 ≤ x8 → Ev d mX12_readsJoin (262, [some (vR (some (22, 0, a0))), some (vI x1), some (vI x2), some (vI x3), some (vI x4), some (vI x5), some (vI x6), some (vI x7), some (vI x8), none, none], [], (I, S)) r) (kf : x8 < x4 → Ev d mX12_readsJoin (176, [some (vR (some (22, 0, a0))), some (vI x1), some (vI x2), some (vI x3), some (vI x4), some (vI x5), some (vI x6), some (vI x7), some (vI x8), none, none], [], (I, S)) r) : Ev d mX12_readsJoin (169, [some (vR (some (22, 0, a0))), some (vI x1), some (vI x2), some (vI x3), some (vI x4), some (vI x5), some (vI x6), some (vI x7), some (vI x8), none, none], [], (I, S)) r :=
  s_iload rfl rfl rfl <|
  s_iload rfl rfl rfl <|
  s_icmp_ge 262 rfl rfl kt kf
theorem b_X12_readsJoin_176 {d : Nat} {r : PO × PM} {I : Nat → Nat → Int} {S : PS} {a0 p1 q1 : Nat} {x1 x2 x3 x4 x5 x6 x7 x8 : Int} (hr1 : S.1 a0 22 = some (0, q1, p1)) (ho2 : -2147483648 ≤ 20 * x1 ∧ 20 * x1 ≤ 2147483647) (ho3 : -2147483648 ≤ (20 * x1) + 11 ∧ (20 * x1) + 11 ≤ 2147483647) (ho4 : -2147483648 ≤ 2 * x8 ∧ 2 * x8 ≤ 2147483647) (ho5 : -2147483648 ≤ ((20 * x1) + 11) + (2 * x8) ∧ ((20 * x1) + 11) + (2 * x8) ≤ 2147483647) (hi6 : 0 ≤ ((20 * x1) + 11) + (2 * x8) ∧ ((20 * x1) + 11) + (2 * x8) < (q1 : Nat)) (ho7 : -2147483648 ≤ 20 * x1 ∧ 20 * x1 ≤ 2147483647) (ho8 : -2147483648 ≤ (20 * x1) + 11 ∧ (20 * x1) + 11 ≤ 2147483647) (ho9 : -2147483648 ≤ 2 * x8 ∧ 2 * x8 ≤ 2147483647) (ho10 : -2147483648 ≤ ((20 * x1) + 11) + (2 * x8) ∧ ((20 * x1) + 11) + (2 * x8) ≤ 2147483647) (ho11 : -2147483648 ≤ (((20 * x1) + 11) + (2 * x8)) + 1 ∧ (((20 * x1) + 11) + (2 * x8)) + 1 ≤ 2147483647) (hi12 : 0 ≤ (((20 * x1) + 11) + (2 * x8)) + 1 ∧ (((20 * x1) + 11) + (2 * x8)) + 1 < (q1 : Nat)) (kt : x7 = 0 → Ev d mX12_readsJoin (253, [some (vR (some (22, 0, a0))), some (vI x1), some (vI x2), some (vI x3), some (vI x4), some (vI x5), some (vI x6), some (vI x7), some (vI x8), some (vI (I p1 (((20 * x1) + 11) + (2 * x8)).toNat)), some (vI (I p1 ((((20 * x1) + 11) + (2 * x8)) + 1).toNat))], [], (I, S)) r) (kf : x7 ≠ 0 → Ev d mX12_readsJoin (221, [some (vR (some (22, 0, a0))), some (vI x1), some (vI x2), some (vI x3), some (vI x4), some (vI x5), some (vI x6), some (vI x7), some (vI x8), some (vI (I p1 (((20 * x1) + 11) + (2 * x8)).toNat)), some (vI (I p1 ((((20 * x1) + 11) + (2 * x8)) + 1).toNat))], [], (I, S)) r) : Ev d mX12_readsJoin (176, [some (vR (some (22, 0, a0))), some (vI x1), some (vI x2), some (vI x3), some (vI x4), some (vI x5), some (vI x6), some (vI x7), some (vI x8), none, none], [], (I, S)) r :=
  s_aload_n rfl rfl rfl <|
  s_getR rfl rfl rfl hr1 <|
  s_bipush rfl rfl <|
  s_iload_n rfl rfl rfl <|
  s_imulp rfl ho2 <|
  s_bipush rfl rfl <|
  s_iaddp rfl ho3 <|
  s_iconst rfl rfl <|
  s_iload rfl rfl rfl <|
  s_imulp rfl ho4 <|
  s_iaddp rfl ho5 <|
  s_iald rfl rfl hi6 <|
  s_istore [some (vR (some (22, 0, a0))), some (vI x1), some (vI x2), some (vI x3), some (vI x4), some (vI x5), some (vI x6), some (vI x7), some (vI x8), some (vI (I p1 (((20 * x1) + 11) + (2 * x8)).toNat)), none] rfl rfl <|
  s_aload_n rfl rfl rfl <|
  s_getR rfl rfl rfl hr1 <|
  s_bipush rfl rfl <|
  s_iload_n rfl rfl rfl <|
  s_imulp rfl ho7 <|
  s_bipush rfl rfl <|
  s_iaddp rfl ho8 <|
  s_iconst rfl rfl <|
  s_iload rfl rfl rfl <|
  s_imulp rfl ho9 <|
  s_iaddp rfl ho10 <|
  s_iconst rfl rfl <|
  s_iaddp rfl ho11 <|
  s_iald rfl rfl hi12 <|
  s_istore [some (vR (some (22, 0, a0))), some (vI x1), some (vI x2), some (vI x3), some (vI x4), some (vI x5), some (vI x6), some (vI x7), some (vI x8), some (vI (I p1 (((20 * x1) + 11) + (2 * x8)).toNat)), some (vI (I p1 ((((20 * x1) + 11) + (2 * x8)) + 1).toNat))] rfl rfl <|
  s_iload rfl rfl rfl <|
  s_if_eq 253 rfl rfl kt kf
theorem b_X12_readsJoin_221 {d : Nat} {r : PO × PM} {I : Nat → Nat → Int} {S : PS} {a0 : Nat} {x1 x2 x3 x4 x5 x6 x7 x8 x9 x10 : Int} (kt : x9 ≠ x5 → Ev d mX12_readsJoin (235, [some (vR (some (22, 0, a0))), some (vI x1), some (vI x2), some (vI x3), some (vI x4), some (vI x5), some (vI x6), some (vI x7), some (vI x8), some (vI x9), some (vI x10)], [], (I, S)) r) (kf : x9 = x5 → Ev d mX12_readsJoin (228, [some (vR (some (22, 0, a0))), some (vI x1), some (vI x2), some (vI x3), some (vI x4), some (vI x5), some (vI x6), some (vI x7), some (vI x8), some (vI x9), some (vI x10)], [], (I, S)) r) : Ev d mX12_readsJoin (221, [some (vR (some (22, 0, a0))), some (vI x1), some (vI x2), some (vI x3), some (vI x4), some (vI x5), some (vI x6), some (vI x7), some (vI x8), some (vI x9), some (vI x10)], [], (I, S)) r :=
  s_iload rfl rfl rfl <|
  s_iload rfl rfl rfl <|
  s_icmp_ne 235 rfl rfl kt kf
theorem b_X12_readsJoin_228 {d : Nat} {r : PO × PM} {I : Nat → Nat → Int} {S : PS} {a0 : Nat} {x1 x2 x3 x4 x5 x6 x7 x8 x9 x10 : Int} (kt : x10 = x6 → Ev d mX12_readsJoin (253, [some (vR (some (22, 0, a0))), some (vI x1), some (vI x2), some (vI x3), some (vI x4), some (vI x5), some (vI x6), some (vI x7), some (vI x8), some (vI x9), some (vI x10)], [], (I, S)) r) (kf : x10 ≠ x6 → Ev d mX12_readsJoin (235, [some (vR (some (22, 0, a0))), some (vI x1), some (vI x2), some (vI x3), some (vI x4), some (vI x5), some (vI x6), some (vI x7), some (vI x8), some (vI x9), some (vI x10)], [], (I, S)) r) : Ev d mX12_readsJoin (228, [some (vR (some (22, 0, a0))), some (vI x1), some (vI x2), some (vI x3), some (vI x4), some (vI x5), some (vI x6), some (vI x7), some (vI x8), some (vI x9), some (vI x10)], [], (I, S)) r :=
  s_iload rfl rfl rfl <|
  s_iload rfl rfl rfl <|
  s_icmp_eq 253 rfl rfl kt kf
theorem b_X12_readsJoin_235 {d : Nat} {r : PO × PM} {I : Nat → Nat → Int} {S : PS} {a0 : Nat} {x1 x2 x3 x4 x5 x6 x7 x8 x9 x10 : Int} (kt : x9 ≠ x6 → Ev d mX12_readsJoin (249, [some (vR (some (22, 0, a0))), some (vI x1), some (vI x2), some (vI x3), some (vI x4), some (vI x5), some (vI x6), some (vI x7), some (vI x8), some (vI x9), some (vI x10)], [], (I, S)) r) (kf : x9 = x6 → Ev d mX12_readsJoin (242, [some (vR (some (22, 0, a0))), some (vI x1), some (vI x2), some (vI x3), some (vI x4), some (vI x5), some (vI x6), some (vI x7), some (vI x8), some (vI x9), some (vI x10)], [], (I, S)) r) : Ev d mX12_readsJoin (235, [some (vR (some (22, 0, a0))), some (vI x1), some (vI x2), some (vI x3), some (vI x4), some (vI x5), some (vI x6), some (vI x7), some (vI x8), some (vI x9), some (vI x10)], [], (I, S)) r :=
  s_iload rfl rfl rfl <|
  s_iload rfl rfl rfl <|
  s_icmp_ne 249 rfl rfl kt kf
theorem b_X12_readsJoin_242 {d : Nat} {r : PO × PM} {I : Nat → Nat → Int} {S : PS} {a0 : Nat} {x1 x2 x3 x4 x5 x6 x7 x8 x9 x10 : Int} (kt : x10 = x5 → Ev d mX12_readsJoin (253, [some (vR (some (22, 0, a0))), some (vI x1), some (vI x2), some (vI x3), some (vI x4), some (vI x5), some (vI x6), some (vI x7), some (vI x8), some (vI x9), some (vI x10)], [], (I, S)) r) (kf : x10 ≠ x5 → Ev d mX12_readsJoin (249, [some (vR (some (22, 0, a0))), some (vI x1), some (vI x2), some (vI x3), some (vI x4), some (vI x5), some (vI x6), some (vI x7), some (vI x8), some (vI x9), some (vI x10)], [], (I, S)) r) : Ev d mX12_readsJoin (242, [some (vR (some (22, 0, a0))), some (vI x1), some (vI x2), some (vI x3), some (vI x4), some (vI x5), some (vI x6), some (vI x7), some (vI x8), some (vI x9), some (vI x10)], [], (I, S)) r :=
  s_iload rfl rfl rfl <|
  s_iload rfl rfl rfl <|
  s_icmp_eq 253 rfl rfl kt kf
theorem b_X12_readsJoin_249 {d : Nat} {r : PO × PM} {I : Nat → Nat → Int} {S : PS} {a0 : Nat} {x1 x2 x3 x4 x5 x6 x7 x8 x9 x10 : Int} (k : Ev d mX12_readsJoin (254, [some (vR (some (22, 0, a0))), some (vI x1), some (vI x2), some (vI x3), some (vI x4), some (vI x5), some (vI x6), some (vI x7), some (vI x8), some (vI x9), some (vI x10)], [vI 1], (I, S)) r) : Ev d mX12_readsJoin (249, [some (vR (some (22, 0, a0))), some (vI x1), some (vI x2), some (vI x3), some (vI x4), some (vI x5), some (vI x6), some (vI x7), some (vI x8), some (vI x9), some (vI x10)], [], (I, S)) r :=
  s_iconst rfl rfl <|
  s_goto 254 rfl rfl k
theorem b_X12_readsJoin_253 {d : Nat} {r : PO × PM} {I : Nat → Nat → Int} {S : PS} {a0 : Nat} {x1 x2 x3 x4 x5 x6 x7 x8 x9 x10 : Int} (k : Ev d mX12_readsJoin (254, [some (vR (some (22, 0, a0))), some (vI x1), some (vI x2), some (vI x3), some (vI x4), some (vI x5), some (vI x6), some (vI x7), some (vI x8), some (vI x9), some (vI x10)], [vI 0], (I, S)) r) : Ev d mX12_readsJoin (253, [some (vR (some (22, 0, a0))), some (vI x1), some (vI x2), some (vI x3), some (vI x4), some (vI x5), some (vI x6), some (vI x7), some (vI x8), some (vI x9), some (vI x10)], [], (I, S)) r :=
  s_iconst rfl rfl <|
  k
theorem b_X12_readsJoin_254 {d : Nat} {r : PO × PM} {I : Nat → Nat → Int} {S : PS} {a0 : Nat} {x1 x2 x3 x4 x5 x6 x7 x8 x9 x10 xs0 : Int} (ho1 : -2147483648 ≤ x8 + 1 ∧ x8 + 1 ≤ 2147483647) (k : Ev d mX12_readsJoin (169, [some (vR (some (22, 0, a0))), some (vI x1), some (vI x2), some (vI x3), some (vI x4), some (vI x5), some (vI x6), some (vI xs0), some (vI (x8 + 1)), none, none], [], (I, S)) r) : Ev d mX12_readsJoin (254, [some (vR (some (22, 0, a0))), some (vI x1), some (vI x2), some (vI x3), some (vI x4), some (vI x5), some (vI x6), some (vI x7), some (vI x8), some (vI x9), some (vI x10)], [vI xs0], (I, S)) r :=
  s_istore [some (vR (some (22, 0, a0))), some (vI x1), some (vI x2), some (vI x3), some (vI x4), some (vI x5), some (vI x6), some (vI xs0), some (vI x8), some (vI x9), some (vI x10)] rfl rfl <|
  s_iincp [some (vR (some (22, 0, a0))), some (vI x1), some (vI x2), some (vI x3), some (vI x4), some (vI x5), some (vI x6), some (vI xs0), some (vI (x8 + 1)), some (vI x9), some (vI x10)] rfl rfl ho1 rfl <|
  s_goto 169 rfl rfl (ev_forget [false, false, false, false, false, false, false, false, false, true, true] rfl k)
theorem b_X12_readsJoin_262 {d : Nat} {r : PO × PM} {I : Nat → Nat → Int} {S : PS} {a0 : Nat} {x1 x2 x3 x4 x5 x6 x7 x8 : Int} (kt : x7 ≠ 0 → Ev d mX12_readsJoin (272, [some (vR (some (22, 0, a0))), some (vI x1), some (vI x2), some (vI x3), some (vI x4), some (vI x5), some (vI x6), some (vI x7), some (vI x8), none, none], [], (I, S)) r) (kf : x7 = 0 → Ev d mX12_readsJoin (267, [some (vR (some (22, 0, a0))), some (vI x1), some (vI x2), some (vI x3), some (vI x4), some (vI x5), some (vI x6), some (vI x7), some (vI x8), none, none], [], (I, S)) r) : Ev d mX12_readsJoin (262, [some (vR (some (22, 0, a0))), some (vI x1), some (vI x2), some (vI x3), some (vI x4), some (vI x5), some (vI x6), some (vI x7), some (vI x8), none, none], [], (I, S)) r :=
  s_iload rfl rfl rfl <|
  s_if_ne 272 rfl rfl kt kf
theorem b_X12_readsJoin_267 {d : Nat} {r : PO × PM} {I : Nat → Nat → Int} {S : PS} {a0 : Nat} {x1 x2 x3 x4 x5 x6 x7 x8 : Int} {I1 : Nat → Nat → Int} {S1 : PS} (c : Ca d mX12_wrong [vR (some (22, 0, a0)), vI 4] (I, S) (.inl none) (I1, S1)) (k : Ev (d + 1) mX12_readsJoin (272, [some (vR (some (22, 0, a0))), some (vI x1), some (vI x2), some (vI x3), some (vI x4), some (vI x5), some (vI x6), some (vI x7), some (vI x8), none, none], [], (I1, S1)) r) : Ev (d + 1) mX12_readsJoin (267, [some (vR (some (22, 0, a0))), some (vI x1), some (vI x2), some (vI x3), some (vI x4), some (vI x5), some (vI x6), some (vI x7), some (vI x8), none, none], [], (I, S)) r :=
  s_aload_n rfl rfl rfl <|
  s_iconst rfl rfl <|
  s_cvV rfl rfl rfl rfl rfl c k
theorem b_X12_readsJoin_272 {d : Nat} {r : PO × PM} {I : Nat → Nat → Int} {S : PS} {a0 : Nat} {x1 x2 x3 x4 x5 x6 x7 x8 z : Int} {I1 : Nat → Nat → Int} {S1 : PS} (c : Ca d mX12_isGood [vR (some (22, 0, a0))] (I, S) (.inl (some (vI z))) (I1, S1)) (k : Ev (d + 1) mX12_readsJoin (276, [some (vR (some (22, 0, a0))), some (vI x1), some (vI x2), some (vI x3), some (vI x4), some (vI x5), some (vI x6), some (vI x7), some (vI x8), none, none], [vI z], (I1, S1)) r) : Ev (d + 1) mX12_readsJoin (272, [some (vR (some (22, 0, a0))), some (vI x1), some (vI x2), some (vI x3), some (vI x4), some (vI x5), some (vI x6), some (vI x7), some (vI x8), none, none], [], (I, S)) r :=
  s_aload_n rfl rfl rfl <|
  s_cvI rfl rfl rfl rfl rfl c k
theorem b_X12_readsJoin_276 {d : Nat} {r : PO × PM} {I : Nat → Nat → Int} {S : PS} {a0 : Nat} {x1 x2 x3 x4 x5 x6 x7 x8 xs0 : Int} (kt : xs0 ≠ 0 → Ev d mX12_readsJoin (280, [some (vR (some (22, 0, a0))), some (vI x1), some (vI x2), some (vI x3), some (vI x4), some (vI x5), some (vI x6), some (vI x7), some (vI x8), none, none], [], (I, S)) r) (kf : xs0 = 0 → Ev d mX12_readsJoin (279, [some (vR (some (22, 0, a0))), some (vI x1), some (vI x2), some (vI x3), some (vI x4), some (vI x5), some (vI x6), some (vI x7), some (vI x8), none, none], [], (I, S)) r) : Ev d mX12_readsJoin (276, [some (vR (some (22, 0, a0))), some (vI x1), some (vI x2), some (vI x3), some (vI x4), some (vI x5), some (vI x6), some (vI x7), some (vI x8), none, none], [vI xs0], (I, S)) r :=
  s_if_ne 280 rfl rfl kt kf
theorem b_X12_readsJoin_279 {d : Nat} {I : Nat → Nat → Int} {S : PS} {a0 : Nat} {x1 x2 x3 x4 x5 x6 x7 x8 : Int} : Ev d mX12_readsJoin (279, [some (vR (some (22, 0, a0))), some (vI x1), some (vI x2), some (vI x3), some (vI x4), some (vI x5), some (vI x6), some (vI x7), some (vI x8), none, none], [], (I, S)) (.inl none, (I, S)) :=
  s_vret rfl rfl
theorem b_X12_readsJoin_280 {d : Nat} {r : PO × PM} {I : Nat → Nat → Int} {S : PS} {a0 p1 q1 : Nat} {x1 x2 x3 x4 x5 x6 x7 x8 : Int} {I1 : Nat → Nat → Int} {S1 : PS} (hr1 : S.1 a0 22 = some (0, q1, p1)) (ho2 : -2147483648 ≤ 20 * x1 ∧ 20 * x1 ≤ 2147483647) (ho3 : -2147483648 ≤ (20 * x1) + 11 ∧ (20 * x1) + 11 ≤ 2147483647) (ho4 : -2147483648 ≤ 2 * x4 ∧ 2 * x4 ≤ 2147483647) (ho5 : -2147483648 ≤ ((20 * x1) + 11) + (2 * x4) ∧ ((20 * x1) + 11) + (2 * x4) ≤ 2147483647) (hi6 : 0 ≤ ((20 * x1) + 11) + (2 * x4) ∧ ((20 * x1) + 11) + (2 * x4) < (q1 : Nat)) (ho7 : -2147483648 ≤ 20 * x1 ∧ 20 * x1 ≤ 2147483647) (ho8 : -2147483648 ≤ (20 * x1) + 11 ∧ (20 * x1) + 11 ≤ 2147483647) (ho9 : -2147483648 ≤ 2 * x4 ∧ 2 * x4 ≤ 2147483647) (ho10 : -2147483648 ≤ ((20 * x1) + 11) + (2 * x4) ∧ ((20 * x1) + 11) + (2 * x4) ≤ 2147483647) (ho11 : -2147483648 ≤ (((20 * x1) + 11) + (2 * x4)) + 1 ∧ (((20 * x1) + 11) + (2 * x4)) + 1 ≤ 2147483647) (hi12 : 0 ≤ (((20 * x1) + 11) + (2 * x4)) + 1 ∧ (((20 * x1) + 11) + (2 * x4)) + 1 < (q1 : Nat)) (ho13 : -2147483648 ≤ 20 * x1 ∧ 20 * x1 ≤ 2147483647) (ho14 : -2147483648 ≤ (20 * x1) + 10 ∧ (20 * x1) + 10 ≤ 2147483647) (hi15 : 0 ≤ (20 * x1) + 10 ∧ (20 * x1) + 10 < (q1 : Nat)) (ho16 : -2147483648 ≤ ((up2 (up2 I p1 ((((20 * x1) + 11) + (2 * x4)).toNat) x5) p1 (((((20 * x1) + 11) + (2 * x4)) + 1).toNat) x6) p1 ((20 * x1) + 10).toNat) + 1 ∧ ((up2 (up2 I p1 ((((20 * x1) + 11) + (2 * x4)).toNat) x5) p1 (((((20 * x1) + 11) + (2 * x4)) + 1).toNat) x6) p1 ((20 * x1) + 10).toNat) + 1 ≤ 2147483647) (hi17 : 0 ≤ (20 * x1) + 10 ∧ (20 * x1) + 10 < (q1 : Nat)) (c : Ca d mX12_goes [vR (some (22, 0, a0))] ((up2 (up2 (up2 I p1 ((((20 * x1) + 11) + (2 * x4)).toNat) x5) p1 (((((20 * x1) + 11) + (2 * x4)) + 1).toNat) x6) p1 (((20 * x1) + 10).toNat) (((up2 (up2 I p1 ((((20 * x1) + 11) + (2 * x4)).toNat) x5) p1 (((((20 * x1) + 11) + (2 * x4)) + 1).toNat) x6) p1 ((20 * x1) + 10).toNat) + 1)), S) (.inl none) (I1, S1)) (k : Ev (d + 1) mX12_readsJoin (340, [some (vR (some (22, 0, a0))), some (vI x1), some (vI x2), some (vI x3), some (vI x4), some (vI x5), some (vI x6), some (vI x7), some (vI x8), none, none], [], (I1, S1)) r) : Ev (d + 1) mX12_readsJoin (280, [some (vR (some (22, 0, a0))), some (vI x1), some (vI x2), some (vI x3), some (vI x4), some (vI x5), some (vI x6), some (vI x7), some (vI x8), none, none], [], (I, S)) r :=
  s_aload_n rfl rfl rfl <|
  s_getR rfl rfl rfl hr1 <|
  s_bipush rfl rfl <|
  s_iload_n rfl rfl rfl <|
  s_imulp rfl ho2 <|
  s_bipush rfl rfl <|
  s_iaddp rfl ho3 <|
  s_iconst rfl rfl <|
  s_iload rfl rfl rfl <|
  s_imulp rfl ho4 <|
  s_iaddp rfl ho5 <|
  s_iload rfl rfl rfl <|
  s_iast rfl hi6 <|
  s_aload_n rfl rfl rfl <|
  s_getR rfl rfl rfl hr1 <|
  s_bipush rfl rfl <|
  s_iload_n rfl rfl rfl <|
  s_imulp rfl ho7 <|
  s_bipush rfl rfl <|
  s_iaddp rfl ho8 <|
  s_iconst rfl rfl <|
  s_iload rfl rfl rfl <|
  s_imulp rfl ho9 <|
  s_iaddp rfl ho10 <|
  s_iconst rfl rfl <|
  s_iaddp rfl ho11 <|
  s_iload rfl rfl rfl <|
  s_iast rfl hi12 <|
  s_aload_n rfl rfl rfl <|
  s_getR rfl rfl rfl hr1 <|
  s_bipush rfl rfl <|
  s_iload_n rfl rfl rfl <|
  s_imulp rfl ho13 <|
  s_bipush rfl rfl <|
  s_iaddp rfl ho14 <|
  s_dup2 rfl rfl <|
  s_iald rfl rfl hi15 <|
  s_iconst rfl rfl <|
  s_iaddp rfl ho16 <|
  s_iast rfl hi17 <|
  s_aload_n rfl rfl rfl <|
  s_cvV rfl rfl rfl rfl rfl c k
theorem b_X12_readsJoin_340 {d : Nat} {I : Nat → Nat → Int} {S : PS} {a0 : Nat} {x1 x2 x3 x4 x5 x6 x7 x8 : Int} : Ev d mX12_readsJoin (340, [some (vR (some (22, 0, a0))), some (vI x1), some (vI x2), some (vI x3), some (vI x4), some (vI x5), some (vI x6), some (vI x7), some (vI x8), none, none], [], (I, S)) (.inl none, (I, S)) :=
  s_vret rfl rfl
theorem b_X12_readsRange_0 {d : Nat} {r : PO × PM} {I : Nat → Nat → Int} {S : PS} {a0 : Nat} {x1 z : Int} {I1 : Nat → Nat → Int} {S1 : PS} (c : Ca d mX12_number [vR (some (22, 0, a0)), vI 3, vI 9] (I, S) (.inl (some (vI z))) (I1, S1)) (k : Ev (d + 1) mX12_readsRange (7, [some (vR (some (22, 0, a0))), some (vI x1), none], [vI z], (I1, S1)) r) : Ev (d + 1) mX12_readsRange (0, [some (vR (some (22, 0, a0))), some (vI x1), none], [], (I, S)) r :=
  s_aload_n rfl rfl rfl <|
  s_iconst rfl rfl <|
  s_bipush rfl rfl <|
  s_cvI rfl rfl rfl rfl rfl c k
theorem b_X12_readsRange_7 {d : Nat} {r : PO × PM} {I : Nat → Nat → Int} {S : PS} {a0 p1 q1 : Nat} {x1 xs0 z : Int} {I1 : Nat → Nat → Int} {S1 : PS} (hr1 : S.1 a0 23 = some (0, q1, p1)) (hi2 : 0 ≤ x1 ∧ x1 < (q1 : Nat)) (ho3 : -2147483648 ≤ x1 + 1 ∧ x1 + 1 ≤ 2147483647) (c : Ca d mX12_number [vR (some (22, 0, a0)), vI xs0, vI 9] ((up2 I p1 (x1.toNat) xs0), S) (.inl (some (vI z))) (I1, S1)) (k : Ev (d + 1) mX12_readsRange (29, [some (vR (some (22, 0, a0))), some (vI x1), some (vI xs0)], [vI z, vI (x1 + 1), vR (some (0, q1, p1))], (I1, S1)) r) : Ev (d + 1) mX12_readsRange (7, [some (vR (some (22, 0, a0))), some (vI x1), none], [vI xs0], (I, S)) r :=
  s_istore_n [some (vR (some (22, 0, a0))), some (vI x1), some (vI xs0)] rfl rfl <|
  s_aload_n rfl rfl rfl <|
  s_getR rfl rfl rfl hr1 <|
  s_iload_n rfl rfl rfl <|
  s_iload_n rfl rfl rfl <|
  s_iast rfl hi2 <|
  s_aload_n rfl rfl rfl <|
  s_getR rfl rfl rfl hr1 <|
  s_iload_n rfl rfl rfl <|
  s_iconst rfl rfl <|
  s_iaddp rfl ho3 <|
  s_aload_n rfl rfl rfl <|
  s_iload_n rfl rfl rfl <|
  s_bipush rfl rfl <|
  s_cvI rfl rfl rfl rfl rfl c k
theorem b_X12_readsRange_29 {d : Nat} {I : Nat → Nat → Int} {S : PS} {a0 ns0 as0 : Nat} {x1 x2 xs1 xs2 : Int} (hi1 : 0 ≤ xs1 ∧ xs1 < (ns0 : Nat)) : Ev d mX12_readsRange (29, [some (vR (some (22, 0, a0))), some (vI x1), some (vI x2)], [vI xs2, vI xs1, vR (some (0, ns0, as0))], (I, S)) (.inl none, ((up2 I as0 (xs1.toNat) xs2), S)) :=
  s_iast rfl hi1 <|
  s_vret rfl rfl
theorem b_X12_readsRule_0 {d : Nat} {r : PO × PM} {I : Nat → Nat → Int} {S : PS} {a0 p2 q2 : Nat} {I1 : Nat → Nat → Int} {S1 : PS} {z : Int} (ho1 : -2147483648 ≤ 8 * (I a0 17) ∧ 8 * (I a0 17) ≤ 2147483647) (hr2 : S.1 a0 23 = some (0, q2, p2)) (c : Ca d mX12_number [vR (some (22, 0, a0)), vI 1, vI 99] (I, S) (.inl (some (vI z))) (I1, S1)) (k : Ev (d + 1) mX12_readsRule (20, [some (vR (some (22, 0, a0))), some (vI (8 * (I a0 17))), none], [vI z, vI (8 * (I a0 17)), vR (some (0, q2, p2))], (I1, S1)) r) : Ev (d + 1) mX12_readsRule (0, [some (vR (some (22, 0, a0))), none, none], [], (I, S)) r :=
  s_bipush rfl rfl <|
  s_aload_n rfl rfl rfl <|
  s_getI rfl rfl rfl <|
  s_imulp rfl ho1 <|
  s_istore_n [some (vR (some (22, 0, a0))), some (vI (8 * (I a0 17))), none] rfl rfl <|
  s_aload_n rfl rfl rfl <|
  s_getR rfl rfl rfl hr2 <|
  s_iload_n rfl rfl rfl <|
  s_aload_n rfl rfl rfl <|
  s_iconst rfl rfl <|
  s_bipush rfl rfl <|
  s_cvI rfl rfl rfl rfl rfl c k
theorem b_X12_readsRule_20 {d : Nat} {r : PO × PM} {I : Nat → Nat → Int} {S : PS} {a0 ns0 as0 : Nat} {x1 xs1 xs2 z : Int} {I1 : Nat → Nat → Int} {S1 : PS} (hi1 : 0 ≤ xs1 ∧ xs1 < (ns0 : Nat)) (c : Ca d mX12_knownWord [vR (some (22, 0, a0))] ((up2 I as0 (xs1.toNat) xs2), S) (.inl (some (vI z))) (I1, S1)) (k : Ev (d + 1) mX12_readsRule (26, [some (vR (some (22, 0, a0))), some (vI x1), none], [vI z, vR (some (22, 0, a0))], (I1, S1)) r) : Ev (d + 1) mX12_readsRule (20, [some (vR (some (22, 0, a0))), some (vI x1), none], [vI xs2, vI xs1, vR (some (0, ns0, as0))], (I, S)) r :=
  s_iast rfl hi1 <|
  s_aload_n rfl rfl rfl <|
  s_aload_n rfl rfl rfl <|
  s_cvI rfl rfl rfl rfl rfl c k
theorem b_X12_readsRule_26 {d : Nat} {r : PO × PM} {I : Nat → Nat → Int} {S : PS} {a0 as0 : Nat} {x1 xs1 : Int} (kt : xs1 ≠ 3 → Ev d mX12_readsRule (34, [some (vR (some (22, 0, a0))), some (vI x1), none], [vR (some (22, 0, as0))], (I, S)) r) (kf : xs1 = 3 → Ev d mX12_readsRule (30, [some (vR (some (22, 0, a0))), some (vI x1), none], [vR (some (22, 0, as0))], (I, S)) r) : Ev d mX12_readsRule (26, [some (vR (some (22, 0, a0))), some (vI x1), none], [vI xs1, vR (some (22, 0, as0))], (I, S)) r :=
  s_iconst rfl rfl <|
  s_icmp_ne 34 rfl rfl kt kf
theorem b_X12_readsRule_30 {d : Nat} {r : PO × PM} {I : Nat → Nat → Int} {S : PS} {a0 as0 : Nat} {x1 : Int} (k : Ev d mX12_readsRule (35, [some (vR (some (22, 0, a0))), some (vI x1), none], [vI 1, vR (some (22, 0, as0))], (I, S)) r) : Ev d mX12_readsRule (30, [some (vR (some (22, 0, a0))), some (vI x1), none], [vR (some (22, 0, as0))], (I, S)) r :=
  s_iconst rfl rfl <|
  s_goto 35 rfl rfl k
theorem b_X12_readsRule_34 {d : Nat} {r : PO × PM} {I : Nat → Nat → Int} {S : PS} {a0 as0 : Nat} {x1 : Int} (k : Ev d mX12_readsRule (35, [some (vR (some (22, 0, a0))), some (vI x1), none], [vI 0, vR (some (22, 0, as0))], (I, S)) r) : Ev d mX12_readsRule (34, [some (vR (some (22, 0, a0))), some (vI x1), none], [vR (some (22, 0, as0))], (I, S)) r :=
  s_iconst rfl rfl <|
  k
theorem b_X12_readsRule_35 {d : Nat} {r : PO × PM} {I : Nat → Nat → Int} {S : PS} {a0 as0 : Nat} {x1 xs1 : Int} {I1 : Nat → Nat → Int} {S1 : PS} (c : Ca d mX12_need [vR (some (22, 0, as0)), vI xs1] (I, S) (.inl none) (I1, S1)) (k : Ev (d + 1) mX12_readsRule (38, [some (vR (some (22, 0, a0))), some (vI x1), none], [], (I1, S1)) r) : Ev (d + 1) mX12_readsRule (35, [some (vR (some (22, 0, a0))), some (vI x1), none], [vI xs1, vR (some (22, 0, as0))], (I, S)) r :=
  s_cvV rfl rfl rfl rfl rfl c k
theorem b_X12_readsRule_38 {d : Nat} {r : PO × PM} {I : Nat → Nat → Int} {S : PS} {a0 : Nat} {x1 : Int} {I1 : Nat → Nat → Int} {S1 : PS} (ho1 : -2147483648 ≤ x1 + 1 ∧ x1 + 1 ≤ 2147483647) (c : Ca d mX12_readsRange [vR (some (22, 0, a0)), vI (x1 + 1)] (I, S) (.inl none) (I1, S1)) (k : Ev (d + 1) mX12_readsRule (45, [some (vR (some (22, 0, a0))), some (vI x1), none], [], (I1, S1)) r) : Ev (d + 1) mX12_readsRule (38, [some (vR (some (22, 0, a0))), some (vI x1), none], [], (I, S)) r :=
  s_aload_n rfl rfl rfl <|
  s_iload_n rfl rfl rfl <|
  s_iconst rfl rfl <|
  s_iaddp rfl ho1 <|
  s_cvV rfl rfl rfl rfl rfl c k
theorem b_X12_readsRule_45 {d : Nat} {r : PO × PM} {I : Nat → Nat → Int} {S : PS} {a0 : Nat} {x1 z : Int} {I1 : Nat → Nat → Int} {S1 : PS} (c : Ca d mX12_knownWord [vR (some (22, 0, a0))] (I, S) (.inl (some (vI z))) (I1, S1)) (k : Ev (d + 1) mX12_readsRule (50, [some (vR (some (22, 0, a0))), some (vI x1), none], [vI z, vR (some (22, 0, a0))], (I1, S1)) r) : Ev (d + 1) mX12_readsRule (45, [some (vR (some (22, 0, a0))), some (vI x1), none], [], (I, S)) r :=
  s_aload_n rfl rfl rfl <|
  s_aload_n rfl rfl rfl <|
  s_cvI rfl rfl rfl rfl rfl c k
theorem b_X12_readsRule_50 {d : Nat} {r : PO × PM} {I : Nat → Nat → Int} {S : PS} {a0 as0 : Nat} {x1 xs1 : Int} (kt : xs1 ≠ 4 → Ev d mX12_readsRule (58, [some (vR (some (22, 0, a0))), some (vI x1), none], [vR (some (22, 0, as0))], (I, S)) r) (kf : xs1 = 4 → Ev d mX12_readsRule (54, [some (vR (some (22, 0, a0))), some (vI x1), none], [vR (some (22, 0, as0))], (I, S)) r) : Ev d mX12_readsRule (50, [some (vR (some (22, 0, a0))), some (vI x1), none], [vI xs1, vR (some (22, 0, as0))], (I, S)) r :=
  s_iconst rfl rfl <|
  s_icmp_ne 58 rfl rfl kt kf
theorem b_X12_readsRule_54 {d : Nat} {r : PO × PM} {I : Nat → Nat → Int} {S : PS} {a0 as0 : Nat} {x1 : Int} (k : Ev d mX12_readsRule (59, [some (vR (some (22, 0, a0))), some (vI x1), none], [vI 1, vR (some (22, 0, as0))], (I, S)) r) : Ev d mX12_readsRule (54, [some (vR (some (22, 0, a0))), some (vI x1), none], [vR (some (22, 0, as0))], (I, S)) r :=
  s_iconst rfl rfl <|
  s_goto 59 rfl rfl k
theorem b_X12_readsRule_58 {d : Nat} {r : PO × PM} {I : Nat → Nat → Int} {S : PS} {a0 as0 : Nat} {x1 : Int} (k : Ev d mX12_readsRule (59, [some (vR (some (22, 0, a0))), some (vI x1), none], [vI 0, vR (some (22, 0, as0))], (I, S)) r) : Ev d mX12_readsRule (58, [some (vR (some (22, 0, a0))), some (vI x1), none], [vR (some (22, 0, as0))], (I, S)) r :=
  s_iconst rfl rfl <|
  k
theorem b_X12_readsRule_59 {d : Nat} {r : PO × PM} {I : Nat → Nat → Int} {S : PS} {a0 as0 : Nat} {x1 xs1 : Int} {I1 : Nat → Nat → Int} {S1 : PS} (c : Ca d mX12_need [vR (some (22, 0, as0)), vI xs1] (I, S) (.inl none) (I1, S1)) (k : Ev (d + 1) mX12_readsRule (62, [some (vR (some (22, 0, a0))), some (vI x1), none], [], (I1, S1)) r) : Ev (d + 1) mX12_readsRule (59, [some (vR (some (22, 0, a0))), some (vI x1), none], [vI xs1, vR (some (22, 0, as0))], (I, S)) r :=
  s_cvV rfl rfl rfl rfl rfl c k
theorem b_X12_readsRule_62 {d : Nat} {r : PO × PM} {I : Nat → Nat → Int} {S : PS} {a0 : Nat} {x1 : Int} {I1 : Nat → Nat → Int} {S1 : PS} (ho1 : -2147483648 ≤ x1 + 3 ∧ x1 + 3 ≤ 2147483647) (c : Ca d mX12_readsRange [vR (some (22, 0, a0)), vI (x1 + 3)] (I, S) (.inl none) (I1, S1)) (k : Ev (d + 1) mX12_readsRule (69, [some (vR (some (22, 0, a0))), some (vI x1), none], [], (I1, S1)) r) : Ev (d + 1) mX12_readsRule (62, [some (vR (some (22, 0, a0))), some (vI x1), none], [], (I, S)) r :=
  s_aload_n rfl rfl rfl <|
  s_iload_n rfl rfl rfl <|
  s_iconst rfl rfl <|
  s_iaddp rfl ho1 <|
  s_cvV rfl rfl rfl rfl rfl c k
theorem b_X12_readsRule_69 {d : Nat} {r : PO × PM} {I : Nat → Nat → Int} {S : PS} {a0 p1 q1 : Nat} {x1 z : Int} {I1 : Nat → Nat → Int} {S1 : PS} (hr1 : S.1 a0 23 = some (0, q1, p1)) (ho2 : -2147483648 ≤ x1 + 5 ∧ x1 + 5 ≤ 2147483647) (hi3 : 0 ≤ x1 + 5 ∧ x1 + 5 < (q1 : Nat)) (ho4 : -2147483648 ≤ x1 + 6 ∧ x1 + 6 ≤ 2147483647) (hi5 : 0 ≤ x1 + 6 ∧ x1 + 6 < (q1 : Nat)) (ho6 : -2147483648 ≤ x1 + 7 ∧ x1 + 7 ≤ 2147483647) (hi7 : 0 ≤ x1 + 7 ∧ x1 + 7 < (q1 : Nat)) (c : Ca d mX12_isGood [vR (some (22, 0, a0))] ((up2 (up2 (up2 I p1 ((x1 + 5).toNat) 0) p1 ((x1 + 6).toNat) 0) p1 ((x1 + 7).toNat) 0), S) (.inl (some (vI z))) (I1, S1)) (k : Ev (d + 1) mX12_readsRule (102, [some (vR (some (22, 0, a0))), some (vI x1), none], [vI z], (I1, S1)) r) : Ev (d + 1) mX12_readsRule (69, [some (vR (some (22, 0, a0))), some (vI x1), none], [], (I, S)) r :=
  s_aload_n rfl rfl rfl <|
  s_getR rfl rfl rfl hr1 <|
  s_iload_n rfl rfl rfl <|
  s_iconst rfl rfl <|
  s_iaddp rfl ho2 <|
  s_iconst rfl rfl <|
  s_iast rfl hi3 <|
  s_aload_n rfl rfl rfl <|
  s_getR rfl rfl rfl hr1 <|
  s_iload_n rfl rfl rfl <|
  s_bipush rfl rfl <|
  s_iaddp rfl ho4 <|
  s_iconst rfl rfl <|
  s_iast rfl hi5 <|
  s_aload_n rfl rfl rfl <|
  s_getR rfl rfl rfl hr1 <|
  s_iload_n rfl rfl rfl <|
  s_bipush rfl rfl <|
  s_iaddp rfl ho6 <|
  s_iconst rfl rfl <|
  s_iast rfl hi7 <|
  s_aload_n rfl rfl rfl <|
  s_cvI rfl rfl rfl rfl rfl c k
theorem b_X12_readsRule_102 {d : Nat} {r : PO × PM} {I : Nat → Nat → Int} {S : PS} {a0 : Nat} {x1 xs0 : Int} (kt : xs0 ≠ 0 → Ev d mX12_readsRule (106, [some (vR (some (22, 0, a0))), some (vI x1), none], [], (I, S)) r) (kf : xs0 = 0 → Ev d mX12_readsRule (105, [some (vR (some (22, 0, a0))), some (vI x1), none], [], (I, S)) r) : Ev d mX12_readsRule (102, [some (vR (some (22, 0, a0))), some (vI x1), none], [vI xs0], (I, S)) r :=
  s_if_ne 106 rfl rfl kt kf
theorem b_X12_readsRule_105 {d : Nat} {I : Nat → Nat → Int} {S : PS} {a0 : Nat} {x1 : Int} : Ev d mX12_readsRule (105, [some (vR (some (22, 0, a0))), some (vI x1), none], [], (I, S)) (.inl none, (I, S)) :=
  s_vret rfl rfl
theorem b_X12_readsRule_106 {d : Nat} {r : PO × PM} {I : Nat → Nat → Int} {S : PS} {a0 : Nat} {x1 z : Int} {I1 : Nat → Nat → Int} {S1 : PS} (c : Ca d mX12_knownWord [vR (some (22, 0, a0))] (I, S) (.inl (some (vI z))) (I1, S1)) (k : Ev (d + 1) mX12_readsRule (110, [some (vR (some (22, 0, a0))), some (vI x1), none], [vI z], (I1, S1)) r) : Ev (d + 1) mX12_readsRule (106, [some (vR (some (22, 0, a0))), some (vI x1), none], [], (I, S)) r :=
  s_aload_n rfl rfl rfl <|
  s_cvI rfl rfl rfl rfl rfl c k
theorem b_X12_readsRule_110 {d : Nat} {r : PO × PM} {I : Nat → Nat → Int} {S : PS} {a0 : Nat} {x1 xs0 : Int} (kt : xs0 = 5 → Ev d mX12_readsRule (122, [some (vR (some (22, 0, a0))), some (vI x1), some (vI xs0)], [], (I, S)) r) (kf : xs0 ≠ 5 → Ev d mX12_readsRule (116, [some (vR (some (22, 0, a0))), some (vI x1), some (vI xs0)], [], (I, S)) r) : Ev d mX12_readsRule (110, [some (vR (some (22, 0, a0))), some (vI x1), none], [vI xs0], (I, S)) r :=
  s_istore_n [some (vR (some (22, 0, a0))), some (vI x1), some (vI xs0)] rfl rfl <|
  s_iload_n rfl rfl rfl <|
  s_iconst rfl rfl <|
  s_icmp_eq 122 rfl rfl kt kf
theorem b_X12_readsRule_116 {d : Nat} {r : PO × PM} {I : Nat → Nat → Int} {S : PS} {a0 : Nat} {x1 x2 : Int} (kt : x2 ≠ 6 → Ev d mX12_readsRule (152, [some (vR (some (22, 0, a0))), some (vI x1), some (vI x2)], [], (I, S)) r) (kf : x2 = 6 → Ev d mX12_readsRule (122, [some (vR (some (22, 0, a0))), some (vI x1), some (vI x2)], [], (I, S)) r) : Ev d mX12_readsRule (116, [some (vR (some (22, 0, a0))), some (vI x1), some (vI x2)], [], (I, S)) r :=
  s_iload_n rfl rfl rfl <|
  s_bipush rfl rfl <|
  s_icmp_ne 152 rfl rfl kt kf
theorem b_X12_readsRule_122 {d : Nat} {r : PO × PM} {I : Nat → Nat → Int} {S : PS} {a0 p1 q1 : Nat} {x1 x2 : Int} (hr1 : S.1 a0 23 = some (0, q1, p1)) (ho2 : -2147483648 ≤ x1 + 7 ∧ x1 + 7 ≤ 2147483647) (kt : x2 ≠ 5 → Ev d mX12_readsRule (139, [some (vR (some (22, 0, a0))), some (vI x1), some (vI x2)], [vI (x1 + 7), vR (some (0, q1, p1))], (I, S)) r) (kf : x2 = 5 → Ev d mX12_readsRule (135, [some (vR (some (22, 0, a0))), some (vI x1), some (vI x2)], [vI (x1 + 7), vR (some (0, q1, p1))], (I, S)) r) : Ev d mX12_readsRule (122, [some (vR (some (22, 0, a0))), some (vI x1), some (vI x2)], [], (I, S)) r :=
  s_aload_n rfl rfl rfl <|
  s_getR rfl rfl rfl hr1 <|
  s_iload_n rfl rfl rfl <|
  s_bipush rfl rfl <|
  s_iaddp rfl ho2 <|
  s_iload_n rfl rfl rfl <|
  s_iconst rfl rfl <|
  s_icmp_ne 139 rfl rfl kt kf
theorem b_X12_readsRule_135 {d : Nat} {r : PO × PM} {I : Nat → Nat → Int} {S : PS} {a0 ns0 as0 : Nat} {x1 x2 xs1 : Int} (k : Ev d mX12_readsRule (140, [some (vR (some (22, 0, a0))), some (vI x1), some (vI x2)], [vI 1, vI xs1, vR (some (0, ns0, as0))], (I, S)) r) : Ev d mX12_readsRule (135, [some (vR (some (22, 0, a0))), some (vI x1), some (vI x2)], [vI xs1, vR (some (0, ns0, as0))], (I, S)) r :=
  s_iconst rfl rfl <|
  s_goto 140 rfl rfl k
theorem b_X12_readsRule_139 {d : Nat} {r : PO × PM} {I : Nat → Nat → Int} {S : PS} {a0 ns0 as0 : Nat} {x1 x2 xs1 : Int} (k : Ev d mX12_readsRule (140, [some (vR (some (22, 0, a0))), some (vI x1), some (vI x2)], [vI 2, vI xs1, vR (some (0, ns0, as0))], (I, S)) r) : Ev d mX12_readsRule (139, [some (vR (some (22, 0, a0))), some (vI x1), some (vI x2)], [vI xs1, vR (some (0, ns0, as0))], (I, S)) r :=
  s_iconst rfl rfl <|
  k
theorem b_X12_readsRule_140 {d : Nat} {r : PO × PM} {I : Nat → Nat → Int} {S : PS} {a0 ns0 as0 : Nat} {x1 x2 xs1 xs2 : Int} {I1 : Nat → Nat → Int} {S1 : PS} (hi1 : 0 ≤ xs1 ∧ xs1 < (ns0 : Nat)) (c : Ca d mX12_goes [vR (some (22, 0, a0))] ((up2 I as0 (xs1.toNat) xs2), S) (.inl none) (I1, S1)) (k : Ev (d + 1) mX12_readsRule (145, [some (vR (some (22, 0, a0))), some (vI x1), some (vI x2)], [], (I1, S1)) r) : Ev (d + 1) mX12_readsRule (140, [some (vR (some (22, 0, a0))), some (vI x1), some (vI x2)], [vI xs2, vI xs1, vR (some (0, ns0, as0))], (I, S)) r :=
  s_iast rfl hi1 <|
  s_aload_n rfl rfl rfl <|
  s_cvV rfl rfl rfl rfl rfl c k
theorem b_X12_readsRule_145 {d : Nat} {r : PO × PM} {I : Nat → Nat → Int} {S : PS} {a0 : Nat} {x1 x2 : Int} {I1 : Nat → Nat → Int} {S1 : PS} (ho1 : -2147483648 ≤ x1 + 5 ∧ x1 + 5 ≤ 2147483647) (c : Ca d mX12_readsRange [vR (some (22, 0, a0)), vI (x1 + 5)] (I, S) (.inl none) (I1, S1)) (k : Ev (d + 1) mX12_readsRule (152, [some (vR (some (22, 0, a0))), some (vI x1), some (vI x2)], [], (I1, S1)) r) : Ev (d + 1) mX12_readsRule (145, [some (vR (some (22, 0, a0))), some (vI x1), some (vI x2)], [], (I, S)) r :=
  s_aload_n rfl rfl rfl <|
  s_iload_n rfl rfl rfl <|
  s_iconst rfl rfl <|
  s_iaddp rfl ho1 <|
  s_cvV rfl rfl rfl rfl rfl c k
theorem b_X12_readsRule_152 {d : Nat} {r : PO × PM} {I : Nat → Nat → Int} {S : PS} {a0 : Nat} {x1 x2 z : Int} {I1 : Nat → Nat → Int} {S1 : PS} (c : Ca d mX12_isGood [vR (some (22, 0, a0))] (I, S) (.inl (some (vI z))) (I1, S1)) (k : Ev (d + 1) mX12_readsRule (156, [some (vR (some (22, 0, a0))), some (vI x1), some (vI x2)], [vI z], (I1, S1)) r) : Ev (d + 1) mX12_readsRule (152, [some (vR (some (22, 0, a0))), some (vI x1), some (vI x2)], [], (I, S)) r :=
  s_aload_n rfl rfl rfl <|
  s_cvI rfl rfl rfl rfl rfl c k
theorem b_X12_readsRule_156 {d : Nat} {r : PO × PM} {I : Nat → Nat → Int} {S : PS} {a0 : Nat} {x1 x2 xs0 : Int} (kt : xs0 = 0 → Ev d mX12_readsRule (169, [some (vR (some (22, 0, a0))), some (vI x1), some (vI x2)], [], (I, S)) r) (kf : xs0 ≠ 0 → Ev d mX12_readsRule (159, [some (vR (some (22, 0, a0))), some (vI x1), some (vI x2)], [], (I, S)) r) : Ev d mX12_readsRule (156, [some (vR (some (22, 0, a0))), some (vI x1), some (vI x2)], [vI xs0], (I, S)) r :=
  s_if_eq 169 rfl rfl kt kf
theorem b_X12_readsRule_159 {d : Nat} {r : PO × PM} {I : Nat → Nat → Int} {S : PS} {a0 : Nat} {x1 x2 : Int} (ho1 : -2147483648 ≤ I a0 17 + 1 ∧ I a0 17 + 1 ≤ 2147483647) (k : Ev d mX12_readsRule (169, [some (vR (some (22, 0, a0))), some (vI x1), some (vI x2)], [], ((up2 I a0 17 (I a0 17 + 1)), S)) r) : Ev d mX12_readsRule (159, [some (vR (some (22, 0, a0))), some (vI x1), some (vI x2)], [], (I, S)) r :=
  s_aload_n rfl rfl rfl <|
  s_dup rfl rfl <|
  s_getI rfl rfl rfl <|
  s_iconst rfl rfl <|
  s_iaddp rfl ho1 <|
  s_putI rfl rfl rfl <|
  k
theorem b_X12_readsRule_169 {d : Nat} {I : Nat → Nat → Int} {S : PS} {a0 : Nat} {x1 x2 : Int} : Ev d mX12_readsRule (169, [some (vR (some (22, 0, a0))), some (vI x1), some (vI x2)], [], (I, S)) (.inl none, (I, S)) :=
  s_vret rfl rfl
theorem b_X12_readsSpot_0 {d : Nat} {r : PO × PM} {I : Nat → Nat → Int} {S : PS} {a0 : Nat} (ho1 : -2147483648 ≤ 10 * (I a0 18) ∧ 10 * (I a0 18) ≤ 2147483647) (kt : I a0 8 = 2 → Ev d mX12_readsSpot (23, [some (vR (some (22, 0, a0))), some (vI (10 * (I a0 18))), some (vI 0), none, none], [], (I, S)) r) (kf : I a0 8 ≠ 2 → Ev d mX12_readsSpot (18, [some (vR (some (22, 0, a0))), some (vI (10 * (I a0 18))), some (vI 0), none, none], [], (I, S)) r) : Ev d mX12_readsSpot (0, [some (vR (some (22, 0, a0))), none, none, none, none], [], (I, S)) r :=
  s_bipush rfl rfl <|
  s_aload_n rfl rfl rfl <|
  s_getI rfl rfl rfl <|
  s_imulp rfl ho1 <|
  s_istore_n [some (vR (some (22, 0, a0))), some (vI (10 * (I a0 18))), none, none, none] rfl rfl <|
  s_iconst rfl rfl <|
  s_istore_n [some (vR (some (22, 0, a0))), some (vI (10 * (I a0 18))), some (vI 0), none, none] rfl rfl <|
  s_aload_n rfl rfl rfl <|
  s_getI rfl rfl rfl <|
  s_iconst rfl rfl <|
  s_icmp_eq 23 rfl rfl kt kf
theorem b_X12_readsSpot_18 {d : Nat} {r : PO × PM} {I : Nat → Nat → Int} {S : PS} {a0 : Nat} {x1 x2 : Int} {I1 : Nat → Nat → Int} {S1 : PS} (c : Ca d mX12_wrong [vR (some (22, 0, a0)), vI 1] (I, S) (.inl none) (I1, S1)) (k : Ev (d + 1) mX12_readsSpot (23, [some (vR (some (22, 0, a0))), some (vI x1), some (vI x2), none, none], [], (I1, S1)) r) : Ev (d + 1) mX12_readsSpot (18, [some (vR (some (22, 0, a0))), some (vI x1), some (vI x2), none, none], [], (I, S)) r :=
  s_aload_n rfl rfl rfl <|
  s_iconst rfl rfl <|
  s_cvV rfl rfl rfl rfl rfl c k
theorem b_X12_readsSpot_23 {d : Nat} {r : PO × PM} {I : Nat → Nat → Int} {S : PS} {a0 : Nat} {x1 x2 z : Int} {I1 : Nat → Nat → Int} {S1 : PS} (c : Ca d mX12_isGood [vR (some (22, 0, a0))] (I, S) (.inl (some (vI z))) (I1, S1)) (k : Ev (d + 1) mX12_readsSpot (27, [some (vR (some (22, 0, a0))), some (vI x1), some (vI x2), none, none], [vI z], (I1, S1)) r) : Ev (d + 1) mX12_readsSpot (23, [some (vR (some (22, 0, a0))), some (vI x1), some (vI x2), none, none], [], (I, S)) r :=
  s_aload_n rfl rfl rfl <|
  s_cvI rfl rfl rfl rfl rfl c k
theorem b_X12_readsSpot_27 {d : Nat} {r : PO × PM} {I : Nat → Nat → Int} {S : PS} {a0 : Nat} {x1 x2 xs0 : Int} (kt : xs0 = 0 → Ev d mX12_readsSpot (148, [some (vR (some (22, 0, a0))), some (vI x1), some (vI x2), none, none], [], (I, S)) r) (kf : xs0 ≠ 0 → Ev d mX12_readsSpot (30, [some (vR (some (22, 0, a0))), some (vI x1), some (vI x2), none, none], [], (I, S)) r) : Ev d mX12_readsSpot (27, [some (vR (some (22, 0, a0))), some (vI x1), some (vI x2), none, none], [vI xs0], (I, S)) r :=
  s_if_eq 148 rfl rfl kt kf
theorem b_X12_readsSpot_30 {d : Nat} {r : PO × PM} {I : Nat → Nat → Int} {S : PS} {a0 : Nat} {x1 x2 : Int} (kt : I a0 8 ≠ 2 → Ev d mX12_readsSpot (148, [some (vR (some (22, 0, a0))), some (vI x1), some (vI x2), none, none], [], (I, S)) r) (kf : I a0 8 = 2 → Ev d mX12_readsSpot (38, [some (vR (some (22, 0, a0))), some (vI x1), some (vI x2), none, none], [], (I, S)) r) : Ev d mX12_readsSpot (30, [some (vR (some (22, 0, a0))), some (vI x1), some (vI x2), none, none], [], (I, S)) r :=
  s_aload_n rfl rfl rfl <|
  s_getI rfl rfl rfl <|
  s_iconst rfl rfl <|
  s_icmp_ne 148 rfl rfl kt kf
theorem b_X12_readsSpot_38 {d : Nat} {r : PO × PM} {I : Nat → Nat → Int} {S : PS} {a0 : Nat} {x1 x2 : Int} (kt : x2 ≠ 9 → Ev d mX12_readsSpot (49, [some (vR (some (22, 0, a0))), some (vI x1), some (vI x2), none, none], [], (I, S)) r) (kf : x2 = 9 → Ev d mX12_readsSpot (44, [some (vR (some (22, 0, a0))), some (vI x1), some (vI x2), none, none], [], (I, S)) r) : Ev d mX12_readsSpot (38, [some (vR (some (22, 0, a0))), some (vI x1), some (vI x2), none, none], [], (I, S)) r :=
  s_iload_n rfl rfl rfl <|
  s_bipush rfl rfl <|
  s_icmp_ne 49 rfl rfl kt kf
theorem b_X12_readsSpot_44 {d : Nat} {r : PO × PM} {I : Nat → Nat → Int} {S : PS} {a0 : Nat} {x1 x2 : Int} {I1 : Nat → Nat → Int} {S1 : PS} (c : Ca d mX12_wrong [vR (some (22, 0, a0)), vI 2] (I, S) (.inl none) (I1, S1)) (k : Ev (d + 1) mX12_readsSpot (49, [some (vR (some (22, 0, a0))), some (vI x1), some (vI x2), none, none], [], (I1, S1)) r) : Ev (d + 1) mX12_readsSpot (44, [some (vR (some (22, 0, a0))), some (vI x1), some (vI x2), none, none], [], (I, S)) r :=
  s_aload_n rfl rfl rfl <|
  s_iconst rfl rfl <|
  s_cvV rfl rfl rfl rfl rfl c k
theorem b_X12_readsSpot_49 {d : Nat} {r : PO × PM} {I : Nat → Nat → Int} {S : PS} {a0 : Nat} {x1 x2 z : Int} {I1 : Nat → Nat → Int} {S1 : PS} (c : Ca d mX12_numberHere [vR (some (22, 0, a0)), vI 0, vI 11] (I, S) (.inl (some (vI z))) (I1, S1)) (k : Ev (d + 1) mX12_readsSpot (56, [some (vR (some (22, 0, a0))), some (vI x1), some (vI x2), none, none], [vI z], (I1, S1)) r) : Ev (d + 1) mX12_readsSpot (49, [some (vR (some (22, 0, a0))), some (vI x1), some (vI x2), none, none], [], (I, S)) r :=
  s_aload_n rfl rfl rfl <|
  s_iconst rfl rfl <|
  s_bipush rfl rfl <|
  s_cvI rfl rfl rfl rfl rfl c k
theorem b_X12_readsSpot_56 {d : Nat} {r : PO × PM} {I : Nat → Nat → Int} {S : PS} {a0 : Nat} {x1 x2 xs0 z : Int} {I1 : Nat → Nat → Int} {S1 : PS} (c : Ca d mX12_isGood [vR (some (22, 0, a0))] (I, S) (.inl (some (vI z))) (I1, S1)) (k : Ev (d + 1) mX12_readsSpot (61, [some (vR (some (22, 0, a0))), some (vI x1), some (vI x2), some (vI xs0), none], [vI z], (I1, S1)) r) : Ev (d + 1) mX12_readsSpot (56, [some (vR (some (22, 0, a0))), some (vI x1), some (vI x2), none, none], [vI xs0], (I, S)) r :=
  s_istore_n [some (vR (some (22, 0, a0))), some (vI x1), some (vI x2), some (vI xs0), none] rfl rfl <|
  s_aload_n rfl rfl rfl <|
  s_cvI rfl rfl rfl rfl rfl c k
theorem b_X12_readsSpot_61 {d : Nat} {r : PO × PM} {I : Nat → Nat → Int} {S : PS} {a0 : Nat} {x1 x2 x3 xs0 : Int} (kt : xs0 = 0 → Ev d mX12_readsSpot (77, [some (vR (some (22, 0, a0))), some (vI x1), some (vI x2), some (vI x3), none], [], (I, S)) r) (kf : xs0 ≠ 0 → Ev d mX12_readsSpot (64, [some (vR (some (22, 0, a0))), some (vI x1), some (vI x2), some (vI x3), none], [], (I, S)) r) : Ev d mX12_readsSpot (61, [some (vR (some (22, 0, a0))), some (vI x1), some (vI x2), some (vI x3), none], [vI xs0], (I, S)) r :=
  s_if_eq 77 rfl rfl kt kf
theorem b_X12_readsSpot_64 {d : Nat} {r : PO × PM} {I : Nat → Nat → Int} {S : PS} {a0 : Nat} {x1 x2 x3 : Int} (kt : x3 ≠ I a0 18 → Ev d mX12_readsSpot (77, [some (vR (some (22, 0, a0))), some (vI x1), some (vI x2), some (vI x3), none], [], (I, S)) r) (kf : x3 = I a0 18 → Ev d mX12_readsSpot (72, [some (vR (some (22, 0, a0))), some (vI x1), some (vI x2), some (vI x3), none], [], (I, S)) r) : Ev d mX12_readsSpot (64, [some (vR (some (22, 0, a0))), some (vI x1), some (vI x2), some (vI x3), none], [], (I, S)) r :=
  s_iload_n rfl rfl rfl <|
  s_aload_n rfl rfl rfl <|
  s_getI rfl rfl rfl <|
  s_icmp_ne 77 rfl rfl kt kf
theorem b_X12_readsSpot_72 {d : Nat} {r : PO × PM} {I : Nat → Nat → Int} {S : PS} {a0 : Nat} {x1 x2 x3 : Int} {I1 : Nat → Nat → Int} {S1 : PS} (c : Ca d mX12_wrong [vR (some (22, 0, a0)), vI 4] (I, S) (.inl none) (I1, S1)) (k : Ev (d + 1) mX12_readsSpot (77, [some (vR (some (22, 0, a0))), some (vI x1), some (vI x2), some (vI x3), none], [], (I1, S1)) r) : Ev (d + 1) mX12_readsSpot (72, [some (vR (some (22, 0, a0))), some (vI x1), some (vI x2), some (vI x3), none], [], (I, S)) r :=
  s_aload_n rfl rfl rfl <|
  s_iconst rfl rfl <|
  s_cvV rfl rfl rfl rfl rfl c k
theorem b_X12_readsSpot_77 {d : Nat} {r : PO × PM} {I : Nat → Nat → Int} {S : PS} {a0 : Nat} {x1 x2 x3 : Int} (k : Ev d mX12_readsSpot (80, [some (vR (some (22, 0, a0))), some (vI x1), some (vI x2), some (vI x3), some (vI 0)], [], (I, S)) r) : Ev d mX12_readsSpot (77, [some (vR (some (22, 0, a0))), some (vI x1), some (vI x2), some (vI x3), none], [], (I, S)) r :=
  s_iconst rfl rfl <|
  s_istore [some (vR (some (22, 0, a0))), some (vI x1), some (vI x2), some (vI x3), some (vI 0)] rfl rfl <|
  k
theorem b_X12_readsSpot_80 {d : Nat} {r : PO × PM} {I : Nat → Nat → Int} {S : PS} {a0 : Nat} {x1 x2 x3 x4 : Int} (kt : x2 ≤ x4 → Ev d mX12_readsSpot (119, [some (vR (some (22, 0, a0))), some (vI x1), some (vI x2), some (vI x3), some (vI x4)], [], (I, S)) r) (kf : x4 < x2 → Ev d mX12_readsSpot (86, [some (vR (some (22, 0, a0))), some (vI x1), some (vI x2), some (vI x3), some (vI x4)], [], (I, S)) r) : Ev d mX12_readsSpot (80, [some (vR (some (22, 0, a0))), some (vI x1), some (vI x2), some (vI x3), some (vI x4)], [], (I, S)) r :=
  s_iload rfl rfl rfl <|
  s_iload_n rfl rfl rfl <|
  s_icmp_ge 119 rfl rfl kt kf
theorem b_X12_readsSpot_86 {d : Nat} {r : PO × PM} {I : Nat → Nat → Int} {S : PS} {a0 : Nat} {x1 x2 x3 x4 z : Int} {I1 : Nat → Nat → Int} {S1 : PS} (c : Ca d mX12_isGood [vR (some (22, 0, a0))] (I, S) (.inl (some (vI z))) (I1, S1)) (k : Ev (d + 1) mX12_readsSpot (90, [some (vR (some (22, 0, a0))), some (vI x1), some (vI x2), some (vI x3), some (vI x4)], [vI z], (I1, S1)) r) : Ev (d + 1) mX12_readsSpot (86, [some (vR (some (22, 0, a0))), some (vI x1), some (vI x2), some (vI x3), some (vI x4)], [], (I, S)) r :=
  s_aload_n rfl rfl rfl <|
  s_cvI rfl rfl rfl rfl rfl c k
theorem b_X12_readsSpot_90 {d : Nat} {r : PO × PM} {I : Nat → Nat → Int} {S : PS} {a0 : Nat} {x1 x2 x3 x4 xs0 : Int} (kt : xs0 = 0 → Ev d mX12_readsSpot (119, [some (vR (some (22, 0, a0))), some (vI x1), some (vI x2), some (vI x3), some (vI x4)], [], (I, S)) r) (kf : xs0 ≠ 0 → Ev d mX12_readsSpot (93, [some (vR (some (22, 0, a0))), some (vI x1), some (vI x2), some (vI x3), some (vI x4)], [], (I, S)) r) : Ev d mX12_readsSpot (90, [some (vR (some (22, 0, a0))), some (vI x1), some (vI x2), some (vI x3), some (vI x4)], [vI xs0], (I, S)) r :=
  s_if_eq 119 rfl rfl kt kf
theorem b_X12_readsSpot_93 {d : Nat} {r : PO × PM} {I : Nat → Nat → Int} {S : PS} {a0 p1 q1 : Nat} {x1 x2 x3 x4 : Int} (hr1 : S.1 a0 24 = some (0, q1, p1)) (ho2 : -2147483648 ≤ x1 + 1 ∧ x1 + 1 ≤ 2147483647) (ho3 : -2147483648 ≤ x1 + 1 + x4 ∧ x1 + 1 + x4 ≤ 2147483647) (hi4 : 0 ≤ x1 + 1 + x4 ∧ x1 + 1 + x4 < (q1 : Nat)) (kt : I p1 (x1 + 1 + x4).toNat ≠ x3 → Ev d mX12_readsSpot (113, [some (vR (some (22, 0, a0))), some (vI x1), some (vI x2), some (vI x3), some (vI x4)], [], (I, S)) r) (kf : I p1 (x1 + 1 + x4).toNat = x3 → Ev d mX12_readsSpot (108, [some (vR (some (22, 0, a0))), some (vI x1), some (vI x2), some (vI x3), some (vI x4)], [], (I, S)) r) : Ev d mX12_readsSpot (93, [some (vR (some (22, 0, a0))), some (vI x1), some (vI x2), some (vI x3), some (vI x4)], [], (I, S)) r :=
  s_aload_n rfl rfl rfl <|
  s_getR rfl rfl rfl hr1 <|
  s_iload_n rfl rfl rfl <|
  s_iconst rfl rfl <|
  s_iaddp rfl ho2 <|
  s_iload rfl rfl rfl <|
  s_iaddp rfl ho3 <|
  s_iald rfl rfl hi4 <|
  s_iload_n rfl rfl rfl <|
  s_icmp_ne 113 rfl rfl kt kf
theorem b_X12_readsSpot_108 {d : Nat} {r : PO × PM} {I : Nat → Nat → Int} {S : PS} {a0 : Nat} {x1 x2 x3 x4 : Int} {I1 : Nat → Nat → Int} {S1 : PS} (c : Ca d mX12_wrong [vR (some (22, 0, a0)), vI 4] (I, S) (.inl none) (I1, S1)) (k : Ev (d + 1) mX12_readsSpot (113, [some (vR (some (22, 0, a0))), some (vI x1), some (vI x2), some (vI x3), some (vI x4)], [], (I1, S1)) r) : Ev (d + 1) mX12_readsSpot (108, [some (vR (some (22, 0, a0))), some (vI x1), some (vI x2), some (vI x3), some (vI x4)], [], (I, S)) r :=
  s_aload_n rfl rfl rfl <|
  s_iconst rfl rfl <|
  s_cvV rfl rfl rfl rfl rfl c k
theorem b_X12_readsSpot_113 {d : Nat} {r : PO × PM} {I : Nat → Nat → Int} {S : PS} {a0 : Nat} {x1 x2 x3 x4 : Int} (ho1 : -2147483648 ≤ x4 + 1 ∧ x4 + 1 ≤ 2147483647) (k : Ev d mX12_readsSpot (80, [some (vR (some (22, 0, a0))), some (vI x1), some (vI x2), some (vI x3), some (vI (x4 + 1))], [], (I, S)) r) : Ev d mX12_readsSpot (113, [some (vR (some (22, 0, a0))), some (vI x1), some (vI x2), some (vI x3), some (vI x4)], [], (I, S)) r :=
  s_iincp [some (vR (some (22, 0, a0))), some (vI x1), some (vI x2), some (vI x3), some (vI (x4 + 1))] rfl rfl ho1 rfl <|
  s_goto 80 rfl rfl k
theorem b_X12_readsSpot_119 {d : Nat} {r : PO × PM} {I : Nat → Nat → Int} {S : PS} {a0 : Nat} {x1 x2 x3 x4 z : Int} {I1 : Nat → Nat → Int} {S1 : PS} (c : Ca d mX12_isGood [vR (some (22, 0, a0))] (I, S) (.inl (some (vI z))) (I1, S1)) (k : Ev (d + 1) mX12_readsSpot (123, [some (vR (some (22, 0, a0))), some (vI x1), some (vI x2), some (vI x3), some (vI x4)], [vI z], (I1, S1)) r) : Ev (d + 1) mX12_readsSpot (119, [some (vR (some (22, 0, a0))), some (vI x1), some (vI x2), some (vI x3), some (vI x4)], [], (I, S)) r :=
  s_aload_n rfl rfl rfl <|
  s_cvI rfl rfl rfl rfl rfl c k
theorem b_X12_readsSpot_123 {d : Nat} {r : PO × PM} {I : Nat → Nat → Int} {S : PS} {a0 : Nat} {x1 x2 x3 x4 xs0 : Int} (kt : xs0 ≠ 0 → Ev d mX12_readsSpot (127, [some (vR (some (22, 0, a0))), some (vI x1), some (vI x2), some (vI x3), some (vI x4)], [], (I, S)) r) (kf : xs0 = 0 → Ev d mX12_readsSpot (126, [some (vR (some (22, 0, a0))), some (vI x1), some (vI x2), some (vI x3), some (vI x4)], [], (I, S)) r) : Ev d mX12_readsSpot (123, [some (vR (some (22, 0, a0))), some (vI x1), some (vI x2), some (vI x3), some (vI x4)], [vI xs0], (I, S)) r :=
  s_if_ne 127 rfl rfl kt kf
theorem b_X12_readsSpot_126 {d : Nat} {I : Nat → Nat → Int} {S : PS} {a0 : Nat} {x1 x2 x3 x4 : Int} : Ev d mX12_readsSpot (126, [some (vR (some (22, 0, a0))), some (vI x1), some (vI x2), some (vI x3), some (vI x4)], [], (I, S)) (.inl none, (I, S)) :=
  s_vret rfl rfl
theorem b_X12_readsSpot_127 {d : Nat} {r : PO × PM} {I : Nat → Nat → Int} {S : PS} {a0 p1 q1 : Nat} {x1 x2 x3 x4 : Int} {I1 : Nat → Nat → Int} {S1 : PS} (hr1 : S.1 a0 24 = some (0, q1, p1)) (ho2 : -2147483648 ≤ x1 + 1 ∧ x1 + 1 ≤ 2147483647) (ho3 : -2147483648 ≤ x1 + 1 + x2 ∧ x1 + 1 + x2 ≤ 2147483647) (hi4 : 0 ≤ x1 + 1 + x2 ∧ x1 + 1 + x2 < (q1 : Nat)) (ho5 : -2147483648 ≤ x2 + 1 ∧ x2 + 1 ≤ 2147483647) (c : Ca d mX12_goes [vR (some (22, 0, a0))] ((up2 I p1 ((x1 + 1 + x2).toNat) x3), S) (.inl none) (I1, S1)) (k : Ev (d + 1) mX12_readsSpot (145, [some (vR (some (22, 0, a0))), some (vI x1), some (vI (x2 + 1)), some (vI x3), some (vI x4)], [], (I1, S1)) r) : Ev (d + 1) mX12_readsSpot (127, [some (vR (some (22, 0, a0))), some (vI x1), some (vI x2), some (vI x3), some (vI x4)], [], (I, S)) r :=
  s_aload_n rfl rfl rfl <|
  s_getR rfl rfl rfl hr1 <|
  s_iload_n rfl rfl rfl <|
  s_iconst rfl rfl <|
  s_iaddp rfl ho2 <|
  s_iload_n rfl rfl rfl <|
  s_iaddp rfl ho3 <|
  s_iload_n rfl rfl rfl <|
  s_iast rfl hi4 <|
  s_iincp [some (vR (some (22, 0, a0))), some (vI x1), some (vI (x2 + 1)), some (vI x3), some (vI x4)] rfl rfl ho5 rfl <|
  s_aload_n rfl rfl rfl <|
  s_cvV rfl rfl rfl rfl rfl c k
theorem b_X12_readsSpot_145 {d : Nat} {r : PO × PM} {I : Nat → Nat → Int} {S : PS} {a0 : Nat} {x1 x2 x3 x4 : Int} (k : Ev d mX12_readsSpot (23, [some (vR (some (22, 0, a0))), some (vI x1), some (vI x2), none, none], [], (I, S)) r) : Ev d mX12_readsSpot (145, [some (vR (some (22, 0, a0))), some (vI x1), some (vI x2), some (vI x3), some (vI x4)], [], (I, S)) r :=
  s_goto 23 rfl rfl (ev_forget [false, false, false, true, true] rfl k)
theorem b_X12_readsSpot_148 {d : Nat} {r : PO × PM} {I : Nat → Nat → Int} {S : PS} {a0 : Nat} {x1 x2 z : Int} {I1 : Nat → Nat → Int} {S1 : PS} (c : Ca d mX12_isGood [vR (some (22, 0, a0))] (I, S) (.inl (some (vI z))) (I1, S1)) (k : Ev (d + 1) mX12_readsSpot (152, [some (vR (some (22, 0, a0))), some (vI x1), some (vI x2), none, none], [vI z], (I1, S1)) r) : Ev (d + 1) mX12_readsSpot (148, [some (vR (some (22, 0, a0))), some (vI x1), some (vI x2), none, none], [], (I, S)) r :=
  s_aload_n rfl rfl rfl <|
  s_cvI rfl rfl rfl rfl rfl c k
theorem b_X12_readsSpot_152 {d : Nat} {r : PO × PM} {I : Nat → Nat → Int} {S : PS} {a0 : Nat} {x1 x2 xs0 : Int} (kt : xs0 = 0 → Ev d mX12_readsSpot (173, [some (vR (some (22, 0, a0))), some (vI x1), some (vI x2), none, none], [], (I, S)) r) (kf : xs0 ≠ 0 → Ev d mX12_readsSpot (155, [some (vR (some (22, 0, a0))), some (vI x1), some (vI x2), none, none], [], (I, S)) r) : Ev d mX12_readsSpot (152, [some (vR (some (22, 0, a0))), some (vI x1), some (vI x2), none, none], [vI xs0], (I, S)) r :=
  s_if_eq 173 rfl rfl kt kf
theorem b_X12_readsSpot_155 {d : Nat} {r : PO × PM} {I : Nat → Nat → Int} {S : PS} {a0 : Nat} {x1 x2 : Int} (kt : I a0 8 ≠ 3 → Ev d mX12_readsSpot (173, [some (vR (some (22, 0, a0))), some (vI x1), some (vI x2), none, none], [], (I, S)) r) (kf : I a0 8 = 3 → Ev d mX12_readsSpot (163, [some (vR (some (22, 0, a0))), some (vI x1), some (vI x2), none, none], [], (I, S)) r) : Ev d mX12_readsSpot (155, [some (vR (some (22, 0, a0))), some (vI x1), some (vI x2), none, none], [], (I, S)) r :=
  s_aload_n rfl rfl rfl <|
  s_getI rfl rfl rfl <|
  s_iconst rfl rfl <|
  s_icmp_ne 173 rfl rfl kt kf
theorem b_X12_readsSpot_163 {d : Nat} {r : PO × PM} {I : Nat → Nat → Int} {S : PS} {a0 : Nat} {x1 x2 : Int} (kt : 3 ≤ x2 → Ev d mX12_readsSpot (173, [some (vR (some (22, 0, a0))), some (vI x1), some (vI x2), none, none], [], (I, S)) r) (kf : x2 < 3 → Ev d mX12_readsSpot (168, [some (vR (some (22, 0, a0))), some (vI x1), some (vI x2), none, none], [], (I, S)) r) : Ev d mX12_readsSpot (163, [some (vR (some (22, 0, a0))), some (vI x1), some (vI x2), none, none], [], (I, S)) r :=
  s_iload_n rfl rfl rfl <|
  s_iconst rfl rfl <|
  s_icmp_ge 173 rfl rfl kt kf
theorem b_X12_readsSpot_168 {d : Nat} {r : PO × PM} {I : Nat → Nat → Int} {S : PS} {a0 : Nat} {x1 x2 : Int} {I1 : Nat → Nat → Int} {S1 : PS} (c : Ca d mX12_wrong [vR (some (22, 0, a0)), vI 2] (I, S) (.inl none) (I1, S1)) (k : Ev (d + 1) mX12_readsSpot (173, [some (vR (some (22, 0, a0))), some (vI x1), some (vI x2), none, none], [], (I1, S1)) r) : Ev (d + 1) mX12_readsSpot (168, [some (vR (some (22, 0, a0))), some (vI x1), some (vI x2), none, none], [], (I, S)) r :=
  s_aload_n rfl rfl rfl <|
  s_iconst rfl rfl <|
  s_cvV rfl rfl rfl rfl rfl c k
theorem b_X12_readsSpot_173 {d : Nat} {r : PO × PM} {I : Nat → Nat → Int} {S : PS} {a0 p1 q1 : Nat} {x1 x2 z : Int} {I1 : Nat → Nat → Int} {S1 : PS} (hr1 : S.1 a0 24 = some (0, q1, p1)) (hi2 : 0 ≤ x1 ∧ x1 < (q1 : Nat)) (c : Ca d mX12_isGood [vR (some (22, 0, a0))] ((up2 I p1 (x1.toNat) x2), S) (.inl (some (vI z))) (I1, S1)) (k : Ev (d + 1) mX12_readsSpot (184, [some (vR (some (22, 0, a0))), some (vI x1), some (vI x2), none, none], [vI z], (I1, S1)) r) : Ev (d + 1) mX12_readsSpot (173, [some (vR (some (22, 0, a0))), some (vI x1), some (vI x2), none, none], [], (I, S)) r :=
  s_aload_n rfl rfl rfl <|
  s_getR rfl rfl rfl hr1 <|
  s_iload_n rfl rfl rfl <|
  s_iload_n rfl rfl rfl <|
  s_iast rfl hi2 <|
  s_aload_n rfl rfl rfl <|
  s_cvI rfl rfl rfl rfl rfl c k
theorem b_X12_readsSpot_184 {d : Nat} {r : PO × PM} {I : Nat → Nat → Int} {S : PS} {a0 : Nat} {x1 x2 xs0 : Int} (kt : xs0 = 0 → Ev d mX12_readsSpot (197, [some (vR (some (22, 0, a0))), some (vI x1), some (vI x2), none, none], [], (I, S)) r) (kf : xs0 ≠ 0 → Ev d mX12_readsSpot (187, [some (vR (some (22, 0, a0))), some (vI x1), some (vI x2), none, none], [], (I, S)) r) : Ev d mX12_readsSpot (184, [some (vR (some (22, 0, a0))), some (vI x1), some (vI x2), none, none], [vI xs0], (I, S)) r :=
  s_if_eq 197 rfl rfl kt kf
theorem b_X12_readsSpot_187 {d : Nat} {r : PO × PM} {I : Nat → Nat → Int} {S : PS} {a0 : Nat} {x1 x2 : Int} (ho1 : -2147483648 ≤ I a0 18 + 1 ∧ I a0 18 + 1 ≤ 2147483647) (k : Ev d mX12_readsSpot (197, [some (vR (some (22, 0, a0))), some (vI x1), some (vI x2), none, none], [], ((up2 I a0 18 (I a0 18 + 1)), S)) r) : Ev d mX12_readsSpot (187, [some (vR (some (22, 0, a0))), some (vI x1), some (vI x2), none, none], [], (I, S)) r :=
  s_aload_n rfl rfl rfl <|
  s_dup rfl rfl <|
  s_getI rfl rfl rfl <|
  s_iconst rfl rfl <|
  s_iaddp rfl ho1 <|
  s_putI rfl rfl rfl <|
  k
theorem b_X12_readsSpot_197 {d : Nat} {I : Nat → Nat → Int} {S : PS} {a0 : Nat} {x1 x2 : Int} : Ev d mX12_readsSpot (197, [some (vR (some (22, 0, a0))), some (vI x1), some (vI x2), none, none], [], (I, S)) (.inl none, (I, S)) :=
  s_vret rfl rfl
theorem b_X12_clause_0 {d : Nat} {r : PO × PM} {I : Nat → Nat → Int} {S : PS} {a0 : Nat} {I1 : Nat → Nat → Int} {S1 : PS} {z : Int} (c : Ca d mX12_knownWord [vR (some (22, 0, a0))] (I, S) (.inl (some (vI z))) (I1, S1)) (k : Ev (d + 1) mX12_clause (4, [some (vR (some (22, 0, a0))), none], [vI z], (I1, S1)) r) : Ev (d + 1) mX12_clause (0, [some (vR (some (22, 0, a0))), none], [], (I, S)) r :=
  s_aload_n rfl rfl rfl <|
  s_cvI rfl rfl rfl rfl rfl c k
theorem b_X12_clause_4 {d : Nat} {r : PO × PM} {I : Nat → Nat → Int} {S : PS} {a0 : Nat} {xs0 : Int} (kt : xs0 ≠ 0 → Ev d mX12_clause (37, [some (vR (some (22, 0, a0))), some (vI xs0)], [], (I, S)) r) (kf : xs0 = 0 → Ev d mX12_clause (9, [some (vR (some (22, 0, a0))), some (vI xs0)], [], (I, S)) r) : Ev d mX12_clause (4, [some (vR (some (22, 0, a0))), none], [vI xs0], (I, S)) r :=
  s_istore_n [some (vR (some (22, 0, a0))), some (vI xs0)] rfl rfl <|
  s_iload_n rfl rfl rfl <|
  s_if_ne 37 rfl rfl kt kf
theorem b_X12_clause_9 {d : Nat} {r : PO × PM} {I : Nat → Nat → Int} {S : PS} {a0 : Nat} {x1 : Int} (kt : I a0 16 ≠ 4 → Ev d mX12_clause (22, [some (vR (some (22, 0, a0))), some (vI x1)], [vR (some (22, 0, a0))], (I, S)) r) (kf : I a0 16 = 4 → Ev d mX12_clause (18, [some (vR (some (22, 0, a0))), some (vI x1)], [vR (some (22, 0, a0))], (I, S)) r) : Ev d mX12_clause (9, [some (vR (some (22, 0, a0))), some (vI x1)], [], (I, S)) r :=
  s_aload_n rfl rfl rfl <|
  s_aload_n rfl rfl rfl <|
  s_getI rfl rfl rfl <|
  s_iconst rfl rfl <|
  s_icmp_ne 22 rfl rfl kt kf
theorem b_X12_clause_18 {d : Nat} {r : PO × PM} {I : Nat → Nat → Int} {S : PS} {a0 as0 : Nat} {x1 : Int} (k : Ev d mX12_clause (23, [some (vR (some (22, 0, a0))), some (vI x1)], [vI 1, vR (some (22, 0, as0))], (I, S)) r) : Ev d mX12_clause (18, [some (vR (some (22, 0, a0))), some (vI x1)], [vR (some (22, 0, as0))], (I, S)) r :=
  s_iconst rfl rfl <|
  s_goto 23 rfl rfl k
theorem b_X12_clause_22 {d : Nat} {r : PO × PM} {I : Nat → Nat → Int} {S : PS} {a0 as0 : Nat} {x1 : Int} (k : Ev d mX12_clause (23, [some (vR (some (22, 0, a0))), some (vI x1)], [vI 0, vR (some (22, 0, as0))], (I, S)) r) : Ev d mX12_clause (22, [some (vR (some (22, 0, a0))), some (vI x1)], [vR (some (22, 0, as0))], (I, S)) r :=
  s_iconst rfl rfl <|
  k
theorem b_X12_clause_23 {d : Nat} {r : PO × PM} {I : Nat → Nat → Int} {S : PS} {a0 as0 : Nat} {x1 xs1 z : Int} {I1 : Nat → Nat → Int} {S1 : PS} (c : Ca d mX12_begins [vR (some (22, 0, as0)), vI xs1, vI 0] (I, S) (.inl (some (vI z))) (I1, S1)) (k : Ev (d + 1) mX12_clause (27, [some (vR (some (22, 0, a0))), some (vI x1)], [vI z], (I1, S1)) r) : Ev (d + 1) mX12_clause (23, [some (vR (some (22, 0, a0))), some (vI x1)], [vI xs1, vR (some (22, 0, as0))], (I, S)) r :=
  s_iconst rfl rfl <|
  s_cvI rfl rfl rfl rfl rfl c k
theorem b_X12_clause_27 {d : Nat} {r : PO × PM} {I : Nat → Nat → Int} {S : PS} {a0 : Nat} {x1 xs0 : Int} (kt : xs0 = 0 → Ev d mX12_clause (175, [some (vR (some (22, 0, a0))), some (vI x1)], [], (I, S)) r) (kf : xs0 ≠ 0 → Ev d mX12_clause (30, [some (vR (some (22, 0, a0))), some (vI x1)], [], (I, S)) r) : Ev d mX12_clause (27, [some (vR (some (22, 0, a0))), some (vI x1)], [vI xs0], (I, S)) r :=
  s_if_eq 175 rfl rfl kt kf
theorem b_X12_clause_30 {d : Nat} {r : PO × PM} {I : Nat → Nat → Int} {S : PS} {a0 : Nat} {x1 : Int} {I1 : Nat → Nat → Int} {S1 : PS} (c : Ca d mX12_readsPiece [vR (some (22, 0, a0))] (I, S) (.inl none) (I1, S1)) (k : Ev (d + 1) mX12_clause (34, [some (vR (some (22, 0, a0))), some (vI x1)], [], (I1, S1)) r) : Ev (d + 1) mX12_clause (30, [some (vR (some (22, 0, a0))), some (vI x1)], [], (I, S)) r :=
  s_aload_n rfl rfl rfl <|
  s_cvV rfl rfl rfl rfl rfl c k
theorem b_X12_clause_34 {d : Nat} {r : PO × PM} {I : Nat → Nat → Int} {S : PS} {a0 : Nat} {x1 : Int} (k : Ev d mX12_clause (175, [some (vR (some (22, 0, a0))), some (vI x1)], [], (I, S)) r) : Ev d mX12_clause (34, [some (vR (some (22, 0, a0))), some (vI x1)], [], (I, S)) r :=
  s_goto 175 rfl rfl k
theorem b_X12_clause_37 {d : Nat} {r : PO × PM} {I : Nat → Nat → Int} {S : PS} {a0 : Nat} {x1 : Int} (kt : x1 ≠ 1 → Ev d mX12_clause (101, [some (vR (some (22, 0, a0))), some (vI x1)], [], (I, S)) r) (kf : x1 = 1 → Ev d mX12_clause (42, [some (vR (some (22, 0, a0))), some (vI x1)], [], (I, S)) r) : Ev d mX12_clause (37, [some (vR (some (22, 0, a0))), some (vI x1)], [], (I, S)) r :=
  s_iload_n rfl rfl rfl <|
  s_iconst rfl rfl <|
  s_icmp_ne 101 rfl rfl kt kf
theorem b_X12_clause_42 {d : Nat} {r : PO × PM} {I : Nat → Nat → Int} {S : PS} {a0 : Nat} {x1 : Int} (kt : I a0 16 ≤ 0 → Ev d mX12_clause (75, [some (vR (some (22, 0, a0))), some (vI x1)], [vR (some (22, 0, a0))], (I, S)) r) (kf : 0 < I a0 16 → Ev d mX12_clause (50, [some (vR (some (22, 0, a0))), some (vI x1)], [vR (some (22, 0, a0))], (I, S)) r) : Ev d mX12_clause (42, [some (vR (some (22, 0, a0))), some (vI x1)], [], (I, S)) r :=
  s_aload_n rfl rfl rfl <|
  s_aload_n rfl rfl rfl <|
  s_getI rfl rfl rfl <|
  s_if_le 75 rfl rfl kt kf
theorem b_X12_clause_50 {d : Nat} {r : PO × PM} {I : Nat → Nat → Int} {S : PS} {a0 as0 p1 q1 : Nat} {x1 : Int} (hr1 : S.1 a0 22 = some (0, q1, p1)) (ho2 : -2147483648 ≤ I a0 16 - 1 ∧ I a0 16 - 1 ≤ 2147483647) (ho3 : -2147483648 ≤ 20 * (I a0 16 - 1) ∧ 20 * (I a0 16 - 1) ≤ 2147483647) (ho4 : -2147483648 ≤ (20 * (I a0 16 - 1)) + 10 ∧ (20 * (I a0 16 - 1)) + 10 ≤ 2147483647) (hi5 : 0 ≤ (20 * (I a0 16 - 1)) + 10 ∧ (20 * (I a0 16 - 1)) + 10 < (q1 : Nat)) (kt : I p1 ((20 * (I a0 16 - 1)) + 10).toNat ≠ 4 → Ev d mX12_clause (75, [some (vR (some (22, 0, a0))), some (vI x1)], [vR (some (22, 0, as0))], (I, S)) r) (kf : I p1 ((20 * (I a0 16 - 1)) + 10).toNat = 4 → Ev d mX12_clause (71, [some (vR (some (22, 0, a0))), some (vI x1)], [vR (some (22, 0, as0))], (I, S)) r) : Ev d mX12_clause (50, [some (vR (some (22, 0, a0))), some (vI x1)], [vR (some (22, 0, as0))], (I, S)) r :=
  s_aload_n rfl rfl rfl <|
  s_getR rfl rfl rfl hr1 <|
  s_bipush rfl rfl <|
  s_aload_n rfl rfl rfl <|
  s_getI rfl rfl rfl <|
  s_iconst rfl rfl <|
  s_isubp rfl ho2 <|
  s_imulp rfl ho3 <|
  s_bipush rfl rfl <|
  s_iaddp rfl ho4 <|
  s_iald rfl rfl hi5 <|
  s_iconst rfl rfl <|
  s_icmp_ne 75 rfl rfl kt kf
theorem b_X12_clause_71 {d : Nat} {r : PO × PM} {I : Nat → Nat → Int} {S : PS} {a0 as0 : Nat} {x1 : Int} (k : Ev d mX12_clause (76, [some (vR (some (22, 0, a0))), some (vI x1)], [vI 1, vR (some (22, 0, as0))], (I, S)) r) : Ev d mX12_clause (71, [some (vR (some (22, 0, a0))), some (vI x1)], [vR (some (22, 0, as0))], (I, S)) r :=
  s_iconst rfl rfl <|
  s_goto 76 rfl rfl k
theorem b_X12_clause_75 {d : Nat} {r : PO × PM} {I : Nat → Nat → Int} {S : PS} {a0 as0 : Nat} {x1 : Int} (k : Ev d mX12_clause (76, [some (vR (some (22, 0, a0))), some (vI x1)], [vI 0, vR (some (22, 0, as0))], (I, S)) r) : Ev d mX12_clause (75, [some (vR (some (22, 0, a0))), some (vI x1)], [vR (some (22, 0, as0))], (I, S)) r :=
  s_iconst rfl rfl <|
  k
theorem b_X12_clause_76 {d : Nat} {r : PO × PM} {I : Nat → Nat → Int} {S : PS} {a0 as0 : Nat} {x1 xs1 : Int} (kt : I a0 16 ≠ 0 → Ev d mX12_clause (87, [some (vR (some (22, 0, a0))), some (vI x1)], [vI xs1, vR (some (22, 0, as0))], (I, S)) r) (kf : I a0 16 = 0 → Ev d mX12_clause (83, [some (vR (some (22, 0, a0))), some (vI x1)], [vI xs1, vR (some (22, 0, as0))], (I, S)) r) : Ev d mX12_clause (76, [some (vR (some (22, 0, a0))), some (vI x1)], [vI xs1, vR (some (22, 0, as0))], (I, S)) r :=
  s_aload_n rfl rfl rfl <|
  s_getI rfl rfl rfl <|
  s_if_ne 87 rfl rfl kt kf
theorem b_X12_clause_83 {d : Nat} {r : PO × PM} {I : Nat → Nat → Int} {S : PS} {a0 as0 : Nat} {x1 xs1 : Int} (k : Ev d mX12_clause (88, [some (vR (some (22, 0, a0))), some (vI x1)], [vI 1, vI xs1, vR (some (22, 0, as0))], (I, S)) r) : Ev d mX12_clause (83, [some (vR (some (22, 0, a0))), some (vI x1)], [vI xs1, vR (some (22, 0, as0))], (I, S)) r :=
  s_iconst rfl rfl <|
  s_goto 88 rfl rfl k
theorem b_X12_clause_87 {d : Nat} {r : PO × PM} {I : Nat → Nat → Int} {S : PS} {a0 as0 : Nat} {x1 xs1 : Int} (k : Ev d mX12_clause (88, [some (vR (some (22, 0, a0))), some (vI x1)], [vI 0, vI xs1, vR (some (22, 0, as0))], (I, S)) r) : Ev d mX12_clause (87, [some (vR (some (22, 0, a0))), some (vI x1)], [vI xs1, vR (some (22, 0, as0))], (I, S)) r :=
  s_iconst rfl rfl <|
  k
theorem b_X12_clause_88 {d : Nat} {r : PO × PM} {I : Nat → Nat → Int} {S : PS} {a0 as0 : Nat} {x1 xs1 xs2 z : Int} {I1 : Nat → Nat → Int} {S1 : PS} (c : Ca d mX12_begins [vR (some (22, 0, as0)), vI xs1, vI xs2] (I, S) (.inl (some (vI z))) (I1, S1)) (k : Ev (d + 1) mX12_clause (91, [some (vR (some (22, 0, a0))), some (vI x1)], [vI z], (I1, S1)) r) : Ev (d + 1) mX12_clause (88, [some (vR (some (22, 0, a0))), some (vI x1)], [vI xs2, vI xs1, vR (some (22, 0, as0))], (I, S)) r :=
  s_cvI rfl rfl rfl rfl rfl c k
theorem b_X12_clause_91 {d : Nat} {r : PO × PM} {I : Nat → Nat → Int} {S : PS} {a0 : Nat} {x1 xs0 : Int} (kt : xs0 = 0 → Ev d mX12_clause (175, [some (vR (some (22, 0, a0))), some (vI x1)], [], (I, S)) r) (kf : xs0 ≠ 0 → Ev d mX12_clause (94, [some (vR (some (22, 0, a0))), some (vI x1)], [], (I, S)) r) : Ev d mX12_clause (91, [some (vR (some (22, 0, a0))), some (vI x1)], [vI xs0], (I, S)) r :=
  s_if_eq 175 rfl rfl kt kf
theorem b_X12_clause_94 {d : Nat} {r : PO × PM} {I : Nat → Nat → Int} {S : PS} {a0 : Nat} {x1 : Int} {I1 : Nat → Nat → Int} {S1 : PS} (c : Ca d mX12_readsJoin [vR (some (22, 0, a0))] (I, S) (.inl none) (I1, S1)) (k : Ev (d + 1) mX12_clause (98, [some (vR (some (22, 0, a0))), some (vI x1)], [], (I1, S1)) r) : Ev (d + 1) mX12_clause (94, [some (vR (some (22, 0, a0))), some (vI x1)], [], (I, S)) r :=
  s_aload_n rfl rfl rfl <|
  s_cvV rfl rfl rfl rfl rfl c k
theorem b_X12_clause_98 {d : Nat} {r : PO × PM} {I : Nat → Nat → Int} {S : PS} {a0 : Nat} {x1 : Int} (k : Ev d mX12_clause (175, [some (vR (some (22, 0, a0))), some (vI x1)], [], (I, S)) r) : Ev d mX12_clause (98, [some (vR (some (22, 0, a0))), some (vI x1)], [], (I, S)) r :=
  s_goto 175 rfl rfl k
theorem b_X12_clause_101 {d : Nat} {r : PO × PM} {I : Nat → Nat → Int} {S : PS} {a0 : Nat} {x1 : Int} (kt : x1 ≠ 2 → Ev d mX12_clause (135, [some (vR (some (22, 0, a0))), some (vI x1)], [], (I, S)) r) (kf : x1 = 2 → Ev d mX12_clause (106, [some (vR (some (22, 0, a0))), some (vI x1)], [], (I, S)) r) : Ev d mX12_clause (101, [some (vR (some (22, 0, a0))), some (vI x1)], [], (I, S)) r :=
  s_iload_n rfl rfl rfl <|
  s_iconst rfl rfl <|
  s_icmp_ne 135 rfl rfl kt kf
theorem b_X12_clause_106 {d : Nat} {r : PO × PM} {I : Nat → Nat → Int} {S : PS} {a0 : Nat} {x1 : Int} (kt : I a0 17 ≠ 6 → Ev d mX12_clause (120, [some (vR (some (22, 0, a0))), some (vI x1)], [vR (some (22, 0, a0))], (I, S)) r) (kf : I a0 17 = 6 → Ev d mX12_clause (116, [some (vR (some (22, 0, a0))), some (vI x1)], [vR (some (22, 0, a0))], (I, S)) r) : Ev d mX12_clause (106, [some (vR (some (22, 0, a0))), some (vI x1)], [], (I, S)) r :=
  s_aload_n rfl rfl rfl <|
  s_aload_n rfl rfl rfl <|
  s_getI rfl rfl rfl <|
  s_bipush rfl rfl <|
  s_icmp_ne 120 rfl rfl kt kf
theorem b_X12_clause_116 {d : Nat} {r : PO × PM} {I : Nat → Nat → Int} {S : PS} {a0 as0 : Nat} {x1 : Int} (k : Ev d mX12_clause (121, [some (vR (some (22, 0, a0))), some (vI x1)], [vI 1, vR (some (22, 0, as0))], (I, S)) r) : Ev d mX12_clause (116, [some (vR (some (22, 0, a0))), some (vI x1)], [vR (some (22, 0, as0))], (I, S)) r :=
  s_iconst rfl rfl <|
  s_goto 121 rfl rfl k
theorem b_X12_clause_120 {d : Nat} {r : PO × PM} {I : Nat → Nat → Int} {S : PS} {a0 as0 : Nat} {x1 : Int} (k : Ev d mX12_clause (121, [some (vR (some (22, 0, a0))), some (vI x1)], [vI 0, vR (some (22, 0, as0))], (I, S)) r) : Ev d mX12_clause (120, [some (vR (some (22, 0, a0))), some (vI x1)], [vR (some (22, 0, as0))], (I, S)) r :=
  s_iconst rfl rfl <|
  k
theorem b_X12_clause_121 {d : Nat} {r : PO × PM} {I : Nat → Nat → Int} {S : PS} {a0 as0 : Nat} {x1 xs1 z : Int} {I1 : Nat → Nat → Int} {S1 : PS} (c : Ca d mX12_begins [vR (some (22, 0, as0)), vI xs1, vI 0] (I, S) (.inl (some (vI z))) (I1, S1)) (k : Ev (d + 1) mX12_clause (125, [some (vR (some (22, 0, a0))), some (vI x1)], [vI z], (I1, S1)) r) : Ev (d + 1) mX12_clause (121, [some (vR (some (22, 0, a0))), some (vI x1)], [vI xs1, vR (some (22, 0, as0))], (I, S)) r :=
  s_iconst rfl rfl <|
  s_cvI rfl rfl rfl rfl rfl c k
theorem b_X12_clause_125 {d : Nat} {r : PO × PM} {I : Nat → Nat → Int} {S : PS} {a0 : Nat} {x1 xs0 : Int} (kt : xs0 = 0 → Ev d mX12_clause (175, [some (vR (some (22, 0, a0))), some (vI x1)], [], (I, S)) r) (kf : xs0 ≠ 0 → Ev d mX12_clause (128, [some (vR (some (22, 0, a0))), some (vI x1)], [], (I, S)) r) : Ev d mX12_clause (125, [some (vR (some (22, 0, a0))), some (vI x1)], [vI xs0], (I, S)) r :=
  s_if_eq 175 rfl rfl kt kf
theorem b_X12_clause_128 {d : Nat} {r : PO × PM} {I : Nat → Nat → Int} {S : PS} {a0 : Nat} {x1 : Int} {I1 : Nat → Nat → Int} {S1 : PS} (c : Ca d mX12_readsRule [vR (some (22, 0, a0))] (I, S) (.inl none) (I1, S1)) (k : Ev (d + 1) mX12_clause (132, [some (vR (some (22, 0, a0))), some (vI x1)], [], (I1, S1)) r) : Ev (d + 1) mX12_clause (128, [some (vR (some (22, 0, a0))), some (vI x1)], [], (I, S)) r :=
  s_aload_n rfl rfl rfl <|
  s_cvV rfl rfl rfl rfl rfl c k
theorem b_X12_clause_132 {d : Nat} {r : PO × PM} {I : Nat → Nat → Int} {S : PS} {a0 : Nat} {x1 : Int} (k : Ev d mX12_clause (175, [some (vR (some (22, 0, a0))), some (vI x1)], [], (I, S)) r) : Ev d mX12_clause (132, [some (vR (some (22, 0, a0))), some (vI x1)], [], (I, S)) r :=
  s_goto 175 rfl rfl k
theorem b_X12_clause_135 {d : Nat} {r : PO × PM} {I : Nat → Nat → Int} {S : PS} {a0 : Nat} {x1 : Int} (kt : x1 ≠ 7 → Ev d mX12_clause (170, [some (vR (some (22, 0, a0))), some (vI x1)], [], (I, S)) r) (kf : x1 = 7 → Ev d mX12_clause (141, [some (vR (some (22, 0, a0))), some (vI x1)], [], (I, S)) r) : Ev d mX12_clause (135, [some (vR (some (22, 0, a0))), some (vI x1)], [], (I, S)) r :=
  s_iload_n rfl rfl rfl <|
  s_bipush rfl rfl <|
  s_icmp_ne 170 rfl rfl kt kf
theorem b_X12_clause_141 {d : Nat} {r : PO × PM} {I : Nat → Nat → Int} {S : PS} {a0 : Nat} {x1 : Int} (kt : I a0 18 ≠ 12 → Ev d mX12_clause (155, [some (vR (some (22, 0, a0))), some (vI x1)], [vR (some (22, 0, a0))], (I, S)) r) (kf : I a0 18 = 12 → Ev d mX12_clause (151, [some (vR (some (22, 0, a0))), some (vI x1)], [vR (some (22, 0, a0))], (I, S)) r) : Ev d mX12_clause (141, [some (vR (some (22, 0, a0))), some (vI x1)], [], (I, S)) r :=
  s_aload_n rfl rfl rfl <|
  s_aload_n rfl rfl rfl <|
  s_getI rfl rfl rfl <|
  s_bipush rfl rfl <|
  s_icmp_ne 155 rfl rfl kt kf
theorem b_X12_clause_151 {d : Nat} {r : PO × PM} {I : Nat → Nat → Int} {S : PS} {a0 as0 : Nat} {x1 : Int} (k : Ev d mX12_clause (156, [some (vR (some (22, 0, a0))), some (vI x1)], [vI 1, vR (some (22, 0, as0))], (I, S)) r) : Ev d mX12_clause (151, [some (vR (some (22, 0, a0))), some (vI x1)], [vR (some (22, 0, as0))], (I, S)) r :=
  s_iconst rfl rfl <|
  s_goto 156 rfl rfl k
theorem b_X12_clause_155 {d : Nat} {r : PO × PM} {I : Nat → Nat → Int} {S : PS} {a0 as0 : Nat} {x1 : Int} (k : Ev d mX12_clause (156, [some (vR (some (22, 0, a0))), some (vI x1)], [vI 0, vR (some (22, 0, as0))], (I, S)) r) : Ev d mX12_clause (155, [some (vR (some (22, 0, a0))), some (vI x1)], [vR (some (22, 0, as0))], (I, S)) r :=
  s_iconst rfl rfl <|
  k
theorem b_X12_clause_156 {d : Nat} {r : PO × PM} {I : Nat → Nat → Int} {S : PS} {a0 as0 : Nat} {x1 xs1 z : Int} {I1 : Nat → Nat → Int} {S1 : PS} (c : Ca d mX12_begins [vR (some (22, 0, as0)), vI xs1, vI 0] (I, S) (.inl (some (vI z))) (I1, S1)) (k : Ev (d + 1) mX12_clause (160, [some (vR (some (22, 0, a0))), some (vI x1)], [vI z], (I1, S1)) r) : Ev (d + 1) mX12_clause (156, [some (vR (some (22, 0, a0))), some (vI x1)], [vI xs1, vR (some (22, 0, as0))], (I, S)) r :=
  s_iconst rfl rfl <|
  s_cvI rfl rfl rfl rfl rfl c k
theorem b_X12_clause_160 {d : Nat} {r : PO × PM} {I : Nat → Nat → Int} {S : PS} {a0 : Nat} {x1 xs0 : Int} (kt : xs0 = 0 → Ev d mX12_clause (175, [some (vR (some (22, 0, a0))), some (vI x1)], [], (I, S)) r) (kf : xs0 ≠ 0 → Ev d mX12_clause (163, [some (vR (some (22, 0, a0))), some (vI x1)], [], (I, S)) r) : Ev d mX12_clause (160, [some (vR (some (22, 0, a0))), some (vI x1)], [vI xs0], (I, S)) r :=
  s_if_eq 175 rfl rfl kt kf
theorem b_X12_clause_163 {d : Nat} {r : PO × PM} {I : Nat → Nat → Int} {S : PS} {a0 : Nat} {x1 : Int} {I1 : Nat → Nat → Int} {S1 : PS} (c : Ca d mX12_readsSpot [vR (some (22, 0, a0))] (I, S) (.inl none) (I1, S1)) (k : Ev (d + 1) mX12_clause (167, [some (vR (some (22, 0, a0))), some (vI x1)], [], (I1, S1)) r) : Ev (d + 1) mX12_clause (163, [some (vR (some (22, 0, a0))), some (vI x1)], [], (I, S)) r :=
  s_aload_n rfl rfl rfl <|
  s_cvV rfl rfl rfl rfl rfl c k
theorem b_X12_clause_167 {d : Nat} {r : PO × PM} {I : Nat → Nat → Int} {S : PS} {a0 : Nat} {x1 : Int} (k : Ev d mX12_clause (175, [some (vR (some (22, 0, a0))), some (vI x1)], [], (I, S)) r) : Ev d mX12_clause (167, [some (vR (some (22, 0, a0))), some (vI x1)], [], (I, S)) r :=
  s_goto 175 rfl rfl k
theorem b_X12_clause_170 {d : Nat} {r : PO × PM} {I : Nat → Nat → Int} {S : PS} {a0 : Nat} {x1 : Int} {I1 : Nat → Nat → Int} {S1 : PS} (c : Ca d mX12_wrong [vR (some (22, 0, a0)), vI 1] (I, S) (.inl none) (I1, S1)) (k : Ev (d + 1) mX12_clause (175, [some (vR (some (22, 0, a0))), some (vI x1)], [], (I1, S1)) r) : Ev (d + 1) mX12_clause (170, [some (vR (some (22, 0, a0))), some (vI x1)], [], (I, S)) r :=
  s_aload_n rfl rfl rfl <|
  s_iconst rfl rfl <|
  s_cvV rfl rfl rfl rfl rfl c k
theorem b_X12_clause_175 {d : Nat} {r : PO × PM} {I : Nat → Nat → Int} {S : PS} {a0 : Nat} {x1 : Int} (kt : I a0 8 ≠ 3 → Ev d mX12_clause (188, [some (vR (some (22, 0, a0))), some (vI x1)], [vR (some (22, 0, a0))], (I, S)) r) (kf : I a0 8 = 3 → Ev d mX12_clause (184, [some (vR (some (22, 0, a0))), some (vI x1)], [vR (some (22, 0, a0))], (I, S)) r) : Ev d mX12_clause (175, [some (vR (some (22, 0, a0))), some (vI x1)], [], (I, S)) r :=
  s_aload_n rfl rfl rfl <|
  s_aload_n rfl rfl rfl <|
  s_getI rfl rfl rfl <|
  s_iconst rfl rfl <|
  s_icmp_ne 188 rfl rfl kt kf
theorem b_X12_clause_184 {d : Nat} {r : PO × PM} {I : Nat → Nat → Int} {S : PS} {a0 as0 : Nat} {x1 : Int} (k : Ev d mX12_clause (189, [some (vR (some (22, 0, a0))), some (vI x1)], [vI 1, vR (some (22, 0, as0))], (I, S)) r) : Ev d mX12_clause (184, [some (vR (some (22, 0, a0))), some (vI x1)], [vR (some (22, 0, as0))], (I, S)) r :=
  s_iconst rfl rfl <|
  s_goto 189 rfl rfl k
theorem b_X12_clause_188 {d : Nat} {r : PO × PM} {I : Nat → Nat → Int} {S : PS} {a0 as0 : Nat} {x1 : Int} (k : Ev d mX12_clause (189, [some (vR (some (22, 0, a0))), some (vI x1)], [vI 0, vR (some (22, 0, as0))], (I, S)) r) : Ev d mX12_clause (188, [some (vR (some (22, 0, a0))), some (vI x1)], [vR (some (22, 0, as0))], (I, S)) r :=
  s_iconst rfl rfl <|
  k
theorem b_X12_clause_189 {d : Nat} {r : PO × PM} {I : Nat → Nat → Int} {S : PS} {a0 as0 : Nat} {x1 xs1 : Int} {I1 : Nat → Nat → Int} {S1 : PS} (c : Ca d mX12_need [vR (some (22, 0, as0)), vI xs1] (I, S) (.inl none) (I1, S1)) (k : Ev (d + 1) mX12_clause (192, [some (vR (some (22, 0, a0))), some (vI x1)], [], (I1, S1)) r) : Ev (d + 1) mX12_clause (189, [some (vR (some (22, 0, a0))), some (vI x1)], [vI xs1, vR (some (22, 0, as0))], (I, S)) r :=
  s_cvV rfl rfl rfl rfl rfl c k
theorem b_X12_clause_192 {d : Nat} {I : Nat → Nat → Int} {S : PS} {a0 : Nat} {x1 : Int} : Ev d mX12_clause (192, [some (vR (some (22, 0, a0))), some (vI x1)], [], (I, S)) (.inl none, (I, S)) :=
  s_vret rfl rfl
theorem b_X12_nearPlace_0 {d : Nat} {r : PO × PM} {I : Nat → Nat → Int} {S : PS} {n0 a0 : Nat} {x1 x2 : Int} (k : Ev d mX12_nearPlace (2, [some (vR (some (0, n0, a0))), some (vI x1), some (vI x2), some (vI 0)], [], (I, S)) r) : Ev d mX12_nearPlace (0, [some (vR (some (0, n0, a0))), some (vI x1), some (vI x2), none], [], (I, S)) r :=
  s_iconst rfl rfl <|
  s_istore_n [some (vR (some (0, n0, a0))), some (vI x1), some (vI x2), some (vI 0)] rfl rfl <|
  k
theorem b_X12_nearPlace_2 {d : Nat} {r : PO × PM} {I : Nat → Nat → Int} {S : PS} {n0 a0 : Nat} {x1 x2 x3 : Int} (ho1 : -2147483648 ≤ 10 * x1 ∧ 10 * x1 ≤ 2147483647) (hi2 : 0 ≤ 10 * x1 ∧ 10 * x1 < (n0 : Nat)) (kt : I a0 (10 * x1).toNat ≤ x3 → Ev d mX12_nearPlace (34, [some (vR (some (0, n0, a0))), some (vI x1), some (vI x2), some (vI x3)], [], (I, S)) r) (kf : x3 < I a0 (10 * x1).toNat → Ev d mX12_nearPlace (12, [some (vR (some (0, n0, a0))), some (vI x1), some (vI x2), some (vI x3)], [], (I, S)) r) : Ev d mX12_nearPlace (2, [some (vR (some (0, n0, a0))), some (vI x1), some (vI x2), some (vI x3)], [], (I, S)) r :=
  s_iload_n rfl rfl rfl <|
  s_aload_n rfl rfl rfl <|
  s_bipush rfl rfl <|
  s_iload_n rfl rfl rfl <|
  s_imulp rfl ho1 <|
  s_iald rfl rfl hi2 <|
  s_icmp_ge 34 rfl rfl kt kf
theorem b_X12_nearPlace_12 {d : Nat} {r : PO × PM} {I : Nat → Nat → Int} {S : PS} {n0 a0 : Nat} {x1 x2 x3 : Int} (ho1 : -2147483648 ≤ 10 * x1 ∧ 10 * x1 ≤ 2147483647) (ho2 : -2147483648 ≤ (10 * x1) + 1 ∧ (10 * x1) + 1 ≤ 2147483647) (ho3 : -2147483648 ≤ ((10 * x1) + 1) + x3 ∧ ((10 * x1) + 1) + x3 ≤ 2147483647) (hi4 : 0 ≤ ((10 * x1) + 1) + x3 ∧ ((10 * x1) + 1) + x3 < (n0 : Nat)) (kt : I a0 (((10 * x1) + 1) + x3).toNat ≠ x2 → Ev d mX12_nearPlace (28, [some (vR (some (0, n0, a0))), some (vI x1), some (vI x2), some (vI x3)], [], (I, S)) r) (kf : I a0 (((10 * x1) + 1) + x3).toNat = x2 → Ev d mX12_nearPlace (26, [some (vR (some (0, n0, a0))), some (vI x1), some (vI x2), some (vI x3)], [], (I, S)) r) : Ev d mX12_nearPlace (12, [some (vR (some (0, n0, a0))), some (vI x1), some (vI x2), some (vI x3)], [], (I, S)) r :=
  s_aload_n rfl rfl rfl <|
  s_bipush rfl rfl <|
  s_iload_n rfl rfl rfl <|
  s_imulp rfl ho1 <|
  s_iconst rfl rfl <|
  s_iaddp rfl ho2 <|
  s_iload_n rfl rfl rfl <|
  s_iaddp rfl ho3 <|
  s_iald rfl rfl hi4 <|
  s_iload_n rfl rfl rfl <|
  s_icmp_ne 28 rfl rfl kt kf
theorem b_X12_nearPlace_26 {d : Nat} {I : Nat → Nat → Int} {S : PS} {n0 a0 : Nat} {x1 x2 x3 : Int} : Ev d mX12_nearPlace (26, [some (vR (some (0, n0, a0))), some (vI x1), some (vI x2), some (vI x3)], [], (I, S)) (.inl (some (vI x3)), (I, S)) :=
  s_iload_n rfl rfl rfl <|
  s_ret rfl rfl
theorem b_X12_nearPlace_28 {d : Nat} {r : PO × PM} {I : Nat → Nat → Int} {S : PS} {n0 a0 : Nat} {x1 x2 x3 : Int} (ho1 : -2147483648 ≤ x3 + 1 ∧ x3 + 1 ≤ 2147483647) (k : Ev d mX12_nearPlace (2, [some (vR (some (0, n0, a0))), some (vI x1), some (vI x2), some (vI (x3 + 1))], [], (I, S)) r) : Ev d mX12_nearPlace (28, [some (vR (some (0, n0, a0))), some (vI x1), some (vI x2), some (vI x3)], [], (I, S)) r :=
  s_iincp [some (vR (some (0, n0, a0))), some (vI x1), some (vI x2), some (vI (x3 + 1))] rfl rfl ho1 rfl <|
  s_goto 2 rfl rfl k
theorem b_X12_nearPlace_34 {d : Nat} {I : Nat → Nat → Int} {S : PS} {n0 a0 : Nat} {x1 x2 x3 : Int} : Ev d mX12_nearPlace (34, [some (vR (some (0, n0, a0))), some (vI x1), some (vI x2), some (vI x3)], [], (I, S)) (.inl (some (vI (-1))), (I, S)) :=
  s_iconst rfl rfl <|
  s_ret rfl rfl
theorem b_X12_nearOf_0 {d : Nat} {I : Nat → Nat → Int} {S : PS} {n0 a0 : Nat} {x1 x2 : Int} (ho1 : -2147483648 ≤ 10 * x1 ∧ 10 * x1 ≤ 2147483647) (hi2 : 0 ≤ 10 * x1 ∧ 10 * x1 < (n0 : Nat)) (ho3 : -2147483648 ≤ 10 * x1 ∧ 10 * x1 ≤ 2147483647) (ho4 : -2147483648 ≤ (10 * x1) + 1 ∧ (10 * x1) + 1 ≤ 2147483647) (ho5 : -2147483648 ≤ x2 + (I a0 (10 * x1).toNat) ∧ x2 + (I a0 (10 * x1).toNat) ≤ 2147483647) (hd6 : (0 ≤ x2 + (I a0 (10 * x1).toNat) ∧ x2 + (I a0 (10 * x1).toNat) ≤ 2147483647) ∧ 0 < I a0 (10 * x1).toNat ∧ I a0 (10 * x1).toNat ≤ 2147483647) (ho7 : -2147483648 ≤ ((10 * x1) + 1) + ((x2 + (I a0 (10 * x1).toNat)) % (I a0 (10 * x1).toNat)) ∧ ((10 * x1) + 1) + ((x2 + (I a0 (10 * x1).toNat)) % (I a0 (10 * x1).toNat)) ≤ 2147483647) (hi8 : 0 ≤ ((10 * x1) + 1) + ((x2 + (I a0 (10 * x1).toNat)) % (I a0 (10 * x1).toNat)) ∧ ((10 * x1) + 1) + ((x2 + (I a0 (10 * x1).toNat)) % (I a0 (10 * x1).toNat)) < (n0 : Nat)) : Ev d mX12_nearOf (0, [some (vR (some (0, n0, a0))), some (vI x1), some (vI x2), none], [], (I, S)) (.inl (some (vI (I a0 (((10 * x1) + 1) + ((x2 + (I a0 (10 * x1).toNat)) % (I a0 (10 * x1).toNat))).toNat))), (I, S)) :=
  s_aload_n rfl rfl rfl <|
  s_bipush rfl rfl <|
  s_iload_n rfl rfl rfl <|
  s_imulp rfl ho1 <|
  s_iald rfl rfl hi2 <|
  s_istore_n [some (vR (some (0, n0, a0))), some (vI x1), some (vI x2), some (vI (I a0 (10 * x1).toNat))] rfl rfl <|
  s_aload_n rfl rfl rfl <|
  s_bipush rfl rfl <|
  s_iload_n rfl rfl rfl <|
  s_imulp rfl ho3 <|
  s_iconst rfl rfl <|
  s_iaddp rfl ho4 <|
  s_iload_n rfl rfl rfl <|
  s_iload_n rfl rfl rfl <|
  s_iaddp rfl ho5 <|
  s_iload_n rfl rfl rfl <|
  s_iremp rfl hd6 <|
  s_iaddp rfl ho7 <|
  s_iald rfl rfl hi8 <|
  s_ret rfl rfl
theorem b_X12_isMap_0 {d : Nat} {r : PO × PM} {I : Nat → Nat → Int} {S : PS} {a0 : Nat} (k : Ev d mX12_isMap (2, [some (vR (some (22, 0, a0))), some (vI 0), none, none, none, none], [], (I, S)) r) : Ev d mX12_isMap (0, [some (vR (some (22, 0, a0))), none, none, none, none, none], [], (I, S)) r :=
  s_iconst rfl rfl <|
  s_istore_n [some (vR (some (22, 0, a0))), some (vI 0), none, none, none, none] rfl rfl <|
  k
theorem b_X12_isMap_2 {d : Nat} {r : PO × PM} {I : Nat → Nat → Int} {S : PS} {a0 : Nat} {x1 : Int} (kt : I a0 18 ≤ x1 → Ev d mX12_isMap (59, [some (vR (some (22, 0, a0))), some (vI x1), none, none, none, none], [], (I, S)) r) (kf : x1 < I a0 18 → Ev d mX12_isMap (10, [some (vR (some (22, 0, a0))), some (vI x1), none, none, none, none], [], (I, S)) r) : Ev d mX12_isMap (2, [some (vR (some (22, 0, a0))), some (vI x1), none, none, none, none], [], (I, S)) r :=
  s_iload_n rfl rfl rfl <|
  s_aload_n rfl rfl rfl <|
  s_getI rfl rfl rfl <|
  s_icmp_ge 59 rfl rfl kt kf
theorem b_X12_isMap_10 {d : Nat} {r : PO × PM} {I : Nat → Nat → Int} {S : PS} {a0 : Nat} {x1 : Int} (k : Ev d mX12_isMap (12, [some (vR (some (22, 0, a0))), some (vI x1), some (vI 0), none, none, none], [], (I, S)) r) : Ev d mX12_isMap (10, [some (vR (some (22, 0, a0))), some (vI x1), none, none, none, none], [], (I, S)) r :=
  s_iconst rfl rfl <|
  s_istore_n [some (vR (some (22, 0, a0))), some (vI x1), some (vI 0), none, none, none] rfl rfl <|
  k
theorem b_X12_isMap_12 {d : Nat} {r : PO × PM} {I : Nat → Nat → Int} {S : PS} {a0 p1 q1 : Nat} {x1 x2 : Int} (hr1 : S.1 a0 24 = some (0, q1, p1)) (ho2 : -2147483648 ≤ 10 * x1 ∧ 10 * x1 ≤ 2147483647) (hi3 : 0 ≤ 10 * x1 ∧ 10 * x1 < (q1 : Nat)) (kt : I p1 (10 * x1).toNat ≤ x2 → Ev d mX12_isMap (53, [some (vR (some (22, 0, a0))), some (vI x1), some (vI x2), none, none, none], [], (I, S)) r) (kf : x2 < I p1 (10 * x1).toNat → Ev d mX12_isMap (25, [some (vR (some (22, 0, a0))), some (vI x1), some (vI x2), none, none, none], [], (I, S)) r) : Ev d mX12_isMap (12, [some (vR (some (22, 0, a0))), some (vI x1), some (vI x2), none, none, none], [], (I, S)) r :=
  s_iload_n rfl rfl rfl <|
  s_aload_n rfl rfl rfl <|
  s_getR rfl rfl rfl hr1 <|
  s_bipush rfl rfl <|
  s_iload_n rfl rfl rfl <|
  s_imulp rfl ho2 <|
  s_iald rfl rfl hi3 <|
  s_icmp_ge 53 rfl rfl kt kf
theorem b_X12_isMap_25 {d : Nat} {r : PO × PM} {I : Nat → Nat → Int} {S : PS} {a0 p1 q1 : Nat} {x1 x2 : Int} (hr1 : S.1 a0 24 = some (0, q1, p1)) (ho2 : -2147483648 ≤ 10 * x1 ∧ 10 * x1 ≤ 2147483647) (ho3 : -2147483648 ≤ (10 * x1) + 1 ∧ (10 * x1) + 1 ≤ 2147483647) (ho4 : -2147483648 ≤ ((10 * x1) + 1) + x2 ∧ ((10 * x1) + 1) + x2 ≤ 2147483647) (hi5 : 0 ≤ ((10 * x1) + 1) + x2 ∧ ((10 * x1) + 1) + x2 < (q1 : Nat)) (kt : I p1 (((10 * x1) + 1) + x2).toNat < I a0 18 → Ev d mX12_isMap (47, [some (vR (some (22, 0, a0))), some (vI x1), some (vI x2), none, none, none], [], (I, S)) r) (kf : I a0 18 ≤ I p1 (((10 * x1) + 1) + x2).toNat → Ev d mX12_isMap (45, [some (vR (some (22, 0, a0))), some (vI x1), some (vI x2), none, none, none], [], (I, S)) r) : Ev d mX12_isMap (25, [some (vR (some (22, 0, a0))), some (vI x1), some (vI x2), none, none, none], [], (I, S)) r :=
  s_aload_n rfl rfl rfl <|
  s_getR rfl rfl rfl hr1 <|
  s_bipush rfl rfl <|
  s_iload_n rfl rfl rfl <|
  s_imulp rfl ho2 <|
  s_iconst rfl rfl <|
  s_iaddp rfl ho3 <|
  s_iload_n rfl rfl rfl <|
  s_iaddp rfl ho4 <|
  s_iald rfl rfl hi5 <|
  s_aload_n rfl rfl rfl <|
  s_getI rfl rfl rfl <|
  s_icmp_lt 47 rfl rfl kt kf
theorem b_X12_isMap_45 {d : Nat} {I : Nat → Nat → Int} {S : PS} {a0 : Nat} {x1 x2 : Int} : Ev d mX12_isMap (45, [some (vR (some (22, 0, a0))), some (vI x1), some (vI x2), none, none, none], [], (I, S)) (.inl (some (vI 0)), (I, S)) :=
  s_iconst rfl rfl <|
  s_ret rfl rfl
theorem b_X12_isMap_47 {d : Nat} {r : PO × PM} {I : Nat → Nat → Int} {S : PS} {a0 : Nat} {x1 x2 : Int} (ho1 : -2147483648 ≤ x2 + 1 ∧ x2 + 1 ≤ 2147483647) (k : Ev d mX12_isMap (12, [some (vR (some (22, 0, a0))), some (vI x1), some (vI (x2 + 1)), none, none, none], [], (I, S)) r) : Ev d mX12_isMap (47, [some (vR (some (22, 0, a0))), some (vI x1), some (vI x2), none, none, none], [], (I, S)) r :=
  s_iincp [some (vR (some (22, 0, a0))), some (vI x1), some (vI (x2 + 1)), none, none, none] rfl rfl ho1 rfl <|
  s_goto 12 rfl rfl k
theorem b_X12_isMap_53 {d : Nat} {r : PO × PM} {I : Nat → Nat → Int} {S : PS} {a0 : Nat} {x1 x2 : Int} (ho1 : -2147483648 ≤ x1 + 1 ∧ x1 + 1 ≤ 2147483647) (k : Ev d mX12_isMap (2, [some (vR (some (22, 0, a0))), some (vI (x1 + 1)), none, none, none, none], [], (I, S)) r) : Ev d mX12_isMap (53, [some (vR (some (22, 0, a0))), some (vI x1), some (vI x2), none, none, none], [], (I, S)) r :=
  s_iincp [some (vR (some (22, 0, a0))), some (vI (x1 + 1)), some (vI x2), none, none, none] rfl rfl ho1 rfl <|
  s_goto 2 rfl rfl (ev_forget [false, false, true, false, false, false] rfl k)
theorem b_X12_isMap_59 {d : Nat} {r : PO × PM} {I : Nat → Nat → Int} {S : PS} {a0 : Nat} {x1 : Int} (k : Ev d mX12_isMap (61, [some (vR (some (22, 0, a0))), some (vI 0), none, none, none, none], [], (I, S)) r) : Ev d mX12_isMap (59, [some (vR (some (22, 0, a0))), some (vI x1), none, none, none, none], [], (I, S)) r :=
  s_iconst rfl rfl <|
  s_istore_n [some (vR (some (22, 0, a0))), some (vI 0), none, none, none, none] rfl rfl <|
  k
theorem b_X12_isMap_61 {d : Nat} {r : PO × PM} {I : Nat → Nat → Int} {S : PS} {a0 : Nat} {x1 : Int} (kt : I a0 18 ≤ x1 → Ev d mX12_isMap (155, [some (vR (some (22, 0, a0))), some (vI x1), none, none, none, none], [], (I, S)) r) (kf : x1 < I a0 18 → Ev d mX12_isMap (69, [some (vR (some (22, 0, a0))), some (vI x1), none, none, none, none], [], (I, S)) r) : Ev d mX12_isMap (61, [some (vR (some (22, 0, a0))), some (vI x1), none, none, none, none], [], (I, S)) r :=
  s_iload_n rfl rfl rfl <|
  s_aload_n rfl rfl rfl <|
  s_getI rfl rfl rfl <|
  s_icmp_ge 155 rfl rfl kt kf
theorem b_X12_isMap_69 {d : Nat} {r : PO × PM} {I : Nat → Nat → Int} {S : PS} {a0 : Nat} {x1 : Int} (k : Ev d mX12_isMap (71, [some (vR (some (22, 0, a0))), some (vI x1), some (vI 0), none, none, none], [], (I, S)) r) : Ev d mX12_isMap (69, [some (vR (some (22, 0, a0))), some (vI x1), none, none, none, none], [], (I, S)) r :=
  s_iconst rfl rfl <|
  s_istore_n [some (vR (some (22, 0, a0))), some (vI x1), some (vI 0), none, none, none] rfl rfl <|
  k
theorem b_X12_isMap_71 {d : Nat} {r : PO × PM} {I : Nat → Nat → Int} {S : PS} {a0 p1 q1 : Nat} {x1 x2 : Int} (hr1 : S.1 a0 24 = some (0, q1, p1)) (ho2 : -2147483648 ≤ 10 * x1 ∧ 10 * x1 ≤ 2147483647) (hi3 : 0 ≤ 10 * x1 ∧ 10 * x1 < (q1 : Nat)) (kt : I p1 (10 * x1).toNat ≤ x2 → Ev d mX12_isMap (149, [some (vR (some (22, 0, a0))), some (vI x1), some (vI x2), none, none, none], [], (I, S)) r) (kf : x2 < I p1 (10 * x1).toNat → Ev d mX12_isMap (84, [some (vR (some (22, 0, a0))), some (vI x1), some (vI x2), none, none, none], [], (I, S)) r) : Ev d mX12_isMap (71, [some (vR (some (22, 0, a0))), some (vI x1), some (vI x2), none, none, none], [], (I, S)) r :=
  s_iload_n rfl rfl rfl <|
  s_aload_n rfl rfl rfl <|
  s_getR rfl rfl rfl hr1 <|
  s_bipush rfl rfl <|
  s_iload_n rfl rfl rfl <|
  s_imulp rfl ho2 <|
  s_iald rfl rfl hi3 <|
  s_icmp_ge 149 rfl rfl kt kf
theorem b_X12_isMap_84 {d : Nat} {r : PO × PM} {I : Nat → Nat → Int} {S : PS} {a0 p1 q1 : Nat} {x1 x2 z : Int} {I1 : Nat → Nat → Int} {S1 : PS} (hr1 : S.1 a0 24 = some (0, q1, p1)) (c : Ca d mX12_nearOf [vR (some (0, q1, p1)), vI x1, vI x2] (I, S) (.inl (some (vI z))) (I1, S1)) (k : Ev (d + 1) mX12_isMap (93, [some (vR (some (22, 0, a0))), some (vI x1), some (vI x2), none, none, none], [vI z], (I1, S1)) r) : Ev (d + 1) mX12_isMap (84, [some (vR (some (22, 0, a0))), some (vI x1), some (vI x2), none, none, none], [], (I, S)) r :=
  s_aload_n rfl rfl rfl <|
  s_getR rfl rfl rfl hr1 <|
  s_iload_n rfl rfl rfl <|
  s_iload_n rfl rfl rfl <|
  s_csI rfl rfl rfl rfl rfl rfl c k
theorem b_X12_isMap_93 {d : Nat} {r : PO × PM} {I : Nat → Nat → Int} {S : PS} {a0 p1 q1 : Nat} {x1 x2 xs0 z : Int} {I1 : Nat → Nat → Int} {S1 : PS} (hr1 : S.1 a0 24 = some (0, q1, p1)) (ho2 : -2147483648 ≤ x2 + 1 ∧ x2 + 1 ≤ 2147483647) (c : Ca d mX12_nearOf [vR (some (0, q1, p1)), vI x1, vI (x2 + 1)] (I, S) (.inl (some (vI z))) (I1, S1)) (k : Ev (d + 1) mX12_isMap (105, [some (vR (some (22, 0, a0))), some (vI x1), some (vI x2), some (vI xs0), none, none], [vI z], (I1, S1)) r) : Ev (d + 1) mX12_isMap (93, [some (vR (some (22, 0, a0))), some (vI x1), some (vI x2), none, none, none], [vI xs0], (I, S)) r :=
  s_istore_n [some (vR (some (22, 0, a0))), some (vI x1), some (vI x2), some (vI xs0), none, none] rfl rfl <|
  s_aload_n rfl rfl rfl <|
  s_getR rfl rfl rfl hr1 <|
  s_iload_n rfl rfl rfl <|
  s_iload_n rfl rfl rfl <|
  s_iconst rfl rfl <|
  s_iaddp rfl ho2 <|
  s_csI rfl rfl rfl rfl rfl rfl c k
theorem b_X12_isMap_105 {d : Nat} {r : PO × PM} {I : Nat → Nat → Int} {S : PS} {a0 p1 q1 : Nat} {x1 x2 x3 xs0 z : Int} {I1 : Nat → Nat → Int} {S1 : PS} (hr1 : S.1 a0 24 = some (0, q1, p1)) (c : Ca d mX12_nearPlace [vR (some (0, q1, p1)), vI x3, vI xs0] (I, S) (.inl (some (vI z))) (I1, S1)) (k : Ev (d + 1) mX12_isMap (117, [some (vR (some (22, 0, a0))), some (vI x1), some (vI x2), some (vI x3), some (vI xs0), none], [vI z], (I1, S1)) r) : Ev (d + 1) mX12_isMap (105, [some (vR (some (22, 0, a0))), some (vI x1), some (vI x2), some (vI x3), none, none], [vI xs0], (I, S)) r :=
  s_istore [some (vR (some (22, 0, a0))), some (vI x1), some (vI x2), some (vI x3), some (vI xs0), none] rfl rfl <|
  s_aload_n rfl rfl rfl <|
  s_getR rfl rfl rfl hr1 <|
  s_iload_n rfl rfl rfl <|
  s_iload rfl rfl rfl <|
  s_csI rfl rfl rfl rfl rfl rfl c k
theorem b_X12_isMap_117 {d : Nat} {r : PO × PM} {I : Nat → Nat → Int} {S : PS} {a0 : Nat} {x1 x2 x3 x4 xs0 : Int} (kt : xs0 = (-1) → Ev d mX12_isMap (141, [some (vR (some (22, 0, a0))), some (vI x1), some (vI x2), some (vI x3), some (vI x4), some (vI xs0)], [], (I, S)) r) (kf : xs0 ≠ (-1) → Ev d mX12_isMap (125, [some (vR (some (22, 0, a0))), some (vI x1), some (vI x2), some (vI x3), some (vI x4), some (vI xs0)], [], (I, S)) r) : Ev d mX12_isMap (117, [some (vR (some (22, 0, a0))), some (vI x1), some (vI x2), some (vI x3), some (vI x4), none], [vI xs0], (I, S)) r :=
  s_istore [some (vR (some (22, 0, a0))), some (vI x1), some (vI x2), some (vI x3), some (vI x4), some (vI xs0)] rfl rfl <|
  s_iload rfl rfl rfl <|
  s_iconst rfl rfl <|
  s_icmp_eq 141 rfl rfl kt kf
theorem b_X12_isMap_125 {d : Nat} {r : PO × PM} {I : Nat → Nat → Int} {S : PS} {a0 p1 q1 : Nat} {x1 x2 x3 x4 x5 z : Int} {I1 : Nat → Nat → Int} {S1 : PS} (hr1 : S.1 a0 24 = some (0, q1, p1)) (ho2 : -2147483648 ≤ x5 + 1 ∧ x5 + 1 ≤ 2147483647) (c : Ca d mX12_nearOf [vR (some (0, q1, p1)), vI x3, vI (x5 + 1)] (I, S) (.inl (some (vI z))) (I1, S1)) (k : Ev (d + 1) mX12_isMap (137, [some (vR (some (22, 0, a0))), some (vI x1), some (vI x2), some (vI x3), some (vI x4), some (vI x5)], [vI z], (I1, S1)) r) : Ev (d + 1) mX12_isMap (125, [some (vR (some (22, 0, a0))), some (vI x1), some (vI x2), some (vI x3), some (vI x4), some (vI x5)], [], (I, S)) r :=
  s_aload_n rfl rfl rfl <|
  s_getR rfl rfl rfl hr1 <|
  s_iload_n rfl rfl rfl <|
  s_iload rfl rfl rfl <|
  s_iconst rfl rfl <|
  s_iaddp rfl ho2 <|
  s_csI rfl rfl rfl rfl rfl rfl c k
theorem b_X12_isMap_137 {d : Nat} {r : PO × PM} {I : Nat → Nat → Int} {S : PS} {a0 : Nat} {x1 x2 x3 x4 x5 xs0 : Int} (kt : xs0 = x1 → Ev d mX12_isMap (143, [some (vR (some (22, 0, a0))), some (vI x1), some (vI x2), some (vI x3), some (vI x4), some (vI x5)], [], (I, S)) r) (kf : xs0 ≠ x1 → Ev d mX12_isMap (141, [some (vR (some (22, 0, a0))), some (vI x1), some (vI x2), some (vI x3), some (vI x4), some (vI x5)], [], (I, S)) r) : Ev d mX12_isMap (137, [some (vR (some (22, 0, a0))), some (vI x1), some (vI x2), some (vI x3), some (vI x4), some (vI x5)], [vI xs0], (I, S)) r :=
  s_iload_n rfl rfl rfl <|
  s_icmp_eq 143 rfl rfl kt kf
theorem b_X12_isMap_141 {d : Nat} {I : Nat → Nat → Int} {S : PS} {a0 : Nat} {x1 x2 x3 x4 x5 : Int} : Ev d mX12_isMap (141, [some (vR (some (22, 0, a0))), some (vI x1), some (vI x2), some (vI x3), some (vI x4), some (vI x5)], [], (I, S)) (.inl (some (vI 0)), (I, S)) :=
  s_iconst rfl rfl <|
  s_ret rfl rfl
theorem b_X12_isMap_143 {d : Nat} {r : PO × PM} {I : Nat → Nat → Int} {S : PS} {a0 : Nat} {x1 x2 x3 x4 x5 : Int} (ho1 : -2147483648 ≤ x2 + 1 ∧ x2 + 1 ≤ 2147483647) (k : Ev d mX12_isMap (71, [some (vR (some (22, 0, a0))), some (vI x1), some (vI (x2 + 1)), none, none, none], [], (I, S)) r) : Ev d mX12_isMap (143, [some (vR (some (22, 0, a0))), some (vI x1), some (vI x2), some (vI x3), some (vI x4), some (vI x5)], [], (I, S)) r :=
  s_iincp [some (vR (some (22, 0, a0))), some (vI x1), some (vI (x2 + 1)), some (vI x3), some (vI x4), some (vI x5)] rfl rfl ho1 rfl <|
  s_goto 71 rfl rfl (ev_forget [false, false, false, true, true, true] rfl k)
theorem b_X12_isMap_149 {d : Nat} {r : PO × PM} {I : Nat → Nat → Int} {S : PS} {a0 : Nat} {x1 x2 : Int} (ho1 : -2147483648 ≤ x1 + 1 ∧ x1 + 1 ≤ 2147483647) (k : Ev d mX12_isMap (61, [some (vR (some (22, 0, a0))), some (vI (x1 + 1)), none, none, none, none], [], (I, S)) r) : Ev d mX12_isMap (149, [some (vR (some (22, 0, a0))), some (vI x1), some (vI x2), none, none, none], [], (I, S)) r :=
  s_iincp [some (vR (some (22, 0, a0))), some (vI (x1 + 1)), some (vI x2), none, none, none] rfl rfl ho1 rfl <|
  s_goto 61 rfl rfl (ev_forget [false, false, true, false, false, false] rfl k)
theorem b_X12_isMap_155 {d : Nat} {I : Nat → Nat → Int} {S : PS} {a0 : Nat} {x1 : Int} : Ev d mX12_isMap (155, [some (vR (some (22, 0, a0))), some (vI x1), none, none, none, none], [], (I, S)) (.inl (some (vI 1)), (I, S)) :=
  s_iconst rfl rfl <|
  s_ret rfl rfl
theorem b_X12_atlas_0 {d : Nat} {r : PO × PM} {I : Nat → Nat → Int} {S : PS} {a0 : Nat} {x1 : Int} (kt : x1 < 0 → Ev d mX12_atlas (22, [some (vR (some (22, 0, a0))), some (vI x1), none], [vR (some (22, 0, a0))], ((up2 I a0 0 0), S)) r) (kf : 0 ≤ x1 → Ev d mX12_atlas (10, [some (vR (some (22, 0, a0))), some (vI x1), none], [vR (some (22, 0, a0))], ((up2 I a0 0 0), S)) r) : Ev d mX12_atlas (0, [some (vR (some (22, 0, a0))), some (vI x1), none], [], (I, S)) r :=
  s_aload_n rfl rfl rfl <|
  s_iconst rfl rfl <|
  s_putI rfl rfl rfl <|
  s_aload_n rfl rfl rfl <|
  s_iload_n rfl rfl rfl <|
  s_if_lt 22 rfl rfl kt kf
theorem b_X12_atlas_10 {d : Nat} {r : PO × PM} {I : Nat → Nat → Int} {S : PS} {a0 as0 : Nat} {x1 : Int} (kt : I a0 2 < x1 → Ev d mX12_atlas (22, [some (vR (some (22, 0, a0))), some (vI x1), none], [vR (some (22, 0, as0))], (I, S)) r) (kf : x1 ≤ I a0 2 → Ev d mX12_atlas (18, [some (vR (some (22, 0, a0))), some (vI x1), none], [vR (some (22, 0, as0))], (I, S)) r) : Ev d mX12_atlas (10, [some (vR (some (22, 0, a0))), some (vI x1), none], [vR (some (22, 0, as0))], (I, S)) r :=
  s_iload_n rfl rfl rfl <|
  s_aload_n rfl rfl rfl <|
  s_getI rfl rfl rfl <|
  s_icmp_gt 22 rfl rfl kt kf
theorem b_X12_atlas_18 {d : Nat} {r : PO × PM} {I : Nat → Nat → Int} {S : PS} {a0 as0 : Nat} {x1 : Int} (k : Ev d mX12_atlas (23, [some (vR (some (22, 0, a0))), some (vI x1), none], [vI 1, vR (some (22, 0, as0))], (I, S)) r) : Ev d mX12_atlas (18, [some (vR (some (22, 0, a0))), some (vI x1), none], [vR (some (22, 0, as0))], (I, S)) r :=
  s_iconst rfl rfl <|
  s_goto 23 rfl rfl k
theorem b_X12_atlas_22 {d : Nat} {r : PO × PM} {I : Nat → Nat → Int} {S : PS} {a0 as0 : Nat} {x1 : Int} (k : Ev d mX12_atlas (23, [some (vR (some (22, 0, a0))), some (vI x1), none], [vI 0, vR (some (22, 0, as0))], (I, S)) r) : Ev d mX12_atlas (22, [some (vR (some (22, 0, a0))), some (vI x1), none], [vR (some (22, 0, as0))], (I, S)) r :=
  s_iconst rfl rfl <|
  k
theorem b_X12_atlas_23 {d : Nat} {r : PO × PM} {I : Nat → Nat → Int} {S : PS} {a0 as0 : Nat} {x1 xs1 z : Int} {I1 : Nat → Nat → Int} {S1 : PS} (c : Ca d mX12_right [vR (some (22, 0, as0)), vI xs1, vI 1] (I, S) (.inl (some (vI z))) (I1, S1)) (k : Ev (d + 1) mX12_atlas (27, [some (vR (some (22, 0, a0))), some (vI x1), none], [vI z], (I1, S1)) r) : Ev (d + 1) mX12_atlas (23, [some (vR (some (22, 0, a0))), some (vI x1), none], [vI xs1, vR (some (22, 0, as0))], (I, S)) r :=
  s_iconst rfl rfl <|
  s_cvI rfl rfl rfl rfl rfl c k
theorem b_X12_atlas_27 {d : Nat} {r : PO × PM} {I : Nat → Nat → Int} {S : PS} {a0 : Nat} {x1 xs0 : Int} (kt : xs0 ≠ 0 → Ev d mX12_atlas (32, [some (vR (some (22, 0, a0))), some (vI x1), none], [], (I, S)) r) (kf : xs0 = 0 → Ev d mX12_atlas (30, [some (vR (some (22, 0, a0))), some (vI x1), none], [], (I, S)) r) : Ev d mX12_atlas (27, [some (vR (some (22, 0, a0))), some (vI x1), none], [vI xs0], (I, S)) r :=
  s_if_ne 32 rfl rfl kt kf
theorem b_X12_atlas_30 {d : Nat} {I : Nat → Nat → Int} {S : PS} {a0 : Nat} {x1 : Int} : Ev d mX12_atlas (30, [some (vR (some (22, 0, a0))), some (vI x1), none], [], (I, S)) (.inl (some (vI 0)), (I, S)) :=
  s_iconst rfl rfl <|
  s_ret rfl rfl
theorem b_X12_atlas_32 {d : Nat} {r : PO × PM} {I : Nat → Nat → Int} {S : PS} {a0 : Nat} {x1 : Int} {I1 : Nat → Nat → Int} {S1 : PS} (c : Ca d mX12_goes [vR (some (22, 0, a0))] ((up2 (up2 (up2 (up2 (up2 (up2 (up2 (up2 I a0 2 0) a0 4 (-1)) a0 3 0) a0 6 x1) a0 7 0) a0 16 0) a0 17 0) a0 18 0), S) (.inl none) (I1, S1)) (k : Ev (d + 1) mX12_atlas (76, [some (vR (some (22, 0, a0))), some (vI x1), none], [], (I1, S1)) r) : Ev (d + 1) mX12_atlas (32, [some (vR (some (22, 0, a0))), some (vI x1), none], [], (I, S)) r :=
  s_aload_n rfl rfl rfl <|
  s_iconst rfl rfl <|
  s_putI rfl rfl rfl <|
  s_aload_n rfl rfl rfl <|
  s_iconst rfl rfl <|
  s_putI rfl rfl rfl <|
  s_aload_n rfl rfl rfl <|
  s_iconst rfl rfl <|
  s_putI rfl rfl rfl <|
  s_aload_n rfl rfl rfl <|
  s_iload_n rfl rfl rfl <|
  s_putI rfl rfl rfl <|
  s_aload_n rfl rfl rfl <|
  s_iconst rfl rfl <|
  s_putI rfl rfl rfl <|
  s_aload_n rfl rfl rfl <|
  s_iconst rfl rfl <|
  s_putI rfl rfl rfl <|
  s_aload_n rfl rfl rfl <|
  s_iconst rfl rfl <|
  s_putI rfl rfl rfl <|
  s_aload_n rfl rfl rfl <|
  s_iconst rfl rfl <|
  s_putI rfl rfl rfl <|
  s_aload_n rfl rfl rfl <|
  s_cvV rfl rfl rfl rfl rfl c k
theorem b_X12_atlas_76 {d : Nat} {r : PO × PM} {I : Nat → Nat → Int} {S : PS} {a0 : Nat} {x1 z : Int} {I1 : Nat → Nat → Int} {S1 : PS} (c : Ca d mX12_isGood [vR (some (22, 0, a0))] (I, S) (.inl (some (vI z))) (I1, S1)) (k : Ev (d + 1) mX12_atlas (80, [some (vR (some (22, 0, a0))), some (vI x1), none], [vI z], (I1, S1)) r) : Ev (d + 1) mX12_atlas (76, [some (vR (some (22, 0, a0))), some (vI x1), none], [], (I, S)) r :=
  s_aload_n rfl rfl rfl <|
  s_cvI rfl rfl rfl rfl rfl c k
theorem b_X12_atlas_80 {d : Nat} {r : PO × PM} {I : Nat → Nat → Int} {S : PS} {a0 : Nat} {x1 xs0 : Int} (kt : xs0 = 0 → Ev d mX12_atlas (97, [some (vR (some (22, 0, a0))), some (vI x1), none], [], (I, S)) r) (kf : xs0 ≠ 0 → Ev d mX12_atlas (83, [some (vR (some (22, 0, a0))), some (vI x1), none], [], (I, S)) r) : Ev d mX12_atlas (80, [some (vR (some (22, 0, a0))), some (vI x1), none], [vI xs0], (I, S)) r :=
  s_if_eq 97 rfl rfl kt kf
theorem b_X12_atlas_83 {d : Nat} {r : PO × PM} {I : Nat → Nat → Int} {S : PS} {a0 : Nat} {x1 : Int} (kt : I a0 8 = 0 → Ev d mX12_atlas (97, [some (vR (some (22, 0, a0))), some (vI x1), none], [], (I, S)) r) (kf : I a0 8 ≠ 0 → Ev d mX12_atlas (90, [some (vR (some (22, 0, a0))), some (vI x1), none], [], (I, S)) r) : Ev d mX12_atlas (83, [some (vR (some (22, 0, a0))), some (vI x1), none], [], (I, S)) r :=
  s_aload_n rfl rfl rfl <|
  s_getI rfl rfl rfl <|
  s_if_eq 97 rfl rfl kt kf
theorem b_X12_atlas_90 {d : Nat} {r : PO × PM} {I : Nat → Nat → Int} {S : PS} {a0 : Nat} {x1 : Int} {I1 : Nat → Nat → Int} {S1 : PS} (c : Ca d mX12_clause [vR (some (22, 0, a0))] (I, S) (.inl none) (I1, S1)) (k : Ev (d + 1) mX12_atlas (94, [some (vR (some (22, 0, a0))), some (vI x1), none], [], (I1, S1)) r) : Ev (d + 1) mX12_atlas (90, [some (vR (some (22, 0, a0))), some (vI x1), none], [], (I, S)) r :=
  s_aload_n rfl rfl rfl <|
  s_cvV rfl rfl rfl rfl rfl c k
theorem b_X12_atlas_94 {d : Nat} {r : PO × PM} {I : Nat → Nat → Int} {S : PS} {a0 : Nat} {x1 : Int} (k : Ev d mX12_atlas (76, [some (vR (some (22, 0, a0))), some (vI x1), none], [], (I, S)) r) : Ev d mX12_atlas (94, [some (vR (some (22, 0, a0))), some (vI x1), none], [], (I, S)) r :=
  s_goto 76 rfl rfl k
theorem b_X12_atlas_97 {d : Nat} {r : PO × PM} {I : Nat → Nat → Int} {S : PS} {a0 : Nat} {x1 z : Int} {I1 : Nat → Nat → Int} {S1 : PS} (c : Ca d mX12_isGood [vR (some (22, 0, a0))] (I, S) (.inl (some (vI z))) (I1, S1)) (k : Ev (d + 1) mX12_atlas (101, [some (vR (some (22, 0, a0))), some (vI x1), none], [vI z], (I1, S1)) r) : Ev (d + 1) mX12_atlas (97, [some (vR (some (22, 0, a0))), some (vI x1), none], [], (I, S)) r :=
  s_aload_n rfl rfl rfl <|
  s_cvI rfl rfl rfl rfl rfl c k
theorem b_X12_atlas_101 {d : Nat} {r : PO × PM} {I : Nat → Nat → Int} {S : PS} {a0 : Nat} {x1 xs0 : Int} (kt : xs0 = 0 → Ev d mX12_atlas (117, [some (vR (some (22, 0, a0))), some (vI x1), none], [], (I, S)) r) (kf : xs0 ≠ 0 → Ev d mX12_atlas (104, [some (vR (some (22, 0, a0))), some (vI x1), none], [], (I, S)) r) : Ev d mX12_atlas (101, [some (vR (some (22, 0, a0))), some (vI x1), none], [vI xs0], (I, S)) r :=
  s_if_eq 117 rfl rfl kt kf
theorem b_X12_atlas_104 {d : Nat} {r : PO × PM} {I : Nat → Nat → Int} {S : PS} {a0 : Nat} {x1 z : Int} {I1 : Nat → Nat → Int} {S1 : PS} (c : Ca d mX12_isMap [vR (some (22, 0, a0))] (I, S) (.inl (some (vI z))) (I1, S1)) (k : Ev (d + 1) mX12_atlas (108, [some (vR (some (22, 0, a0))), some (vI x1), none], [vI z], (I1, S1)) r) : Ev (d + 1) mX12_atlas (104, [some (vR (some (22, 0, a0))), some (vI x1), none], [], (I, S)) r :=
  s_aload_n rfl rfl rfl <|
  s_cvI rfl rfl rfl rfl rfl c k
theorem b_X12_atlas_108 {d : Nat} {r : PO × PM} {I : Nat → Nat → Int} {S : PS} {a0 : Nat} {x1 xs0 : Int} (kt : xs0 ≠ 0 → Ev d mX12_atlas (117, [some (vR (some (22, 0, a0))), some (vI x1), none], [], (I, S)) r) (kf : xs0 = 0 → Ev d mX12_atlas (111, [some (vR (some (22, 0, a0))), some (vI x1), none], [], (I, S)) r) : Ev d mX12_atlas (108, [some (vR (some (22, 0, a0))), some (vI x1), none], [vI xs0], (I, S)) r :=
  s_if_ne 117 rfl rfl kt kf
theorem b_X12_atlas_111 {d : Nat} {r : PO × PM} {I : Nat → Nat → Int} {S : PS} {a0 : Nat} {x1 : Int} {I1 : Nat → Nat → Int} {S1 : PS} (c : Ca d mX12_wrong [vR (some (22, 0, a0)), vI 6] (I, S) (.inl none) (I1, S1)) (k : Ev (d + 1) mX12_atlas (117, [some (vR (some (22, 0, a0))), some (vI x1), none], [], (I1, S1)) r) : Ev (d + 1) mX12_atlas (111, [some (vR (some (22, 0, a0))), some (vI x1), none], [], (I, S)) r :=
  s_aload_n rfl rfl rfl <|
  s_bipush rfl rfl <|
  s_cvV rfl rfl rfl rfl rfl c k
theorem b_X12_atlas_117 {d : Nat} {r : PO × PM} {I : Nat → Nat → Int} {S : PS} {a0 : Nat} {x1 z : Int} {I1 : Nat → Nat → Int} {S1 : PS} (c : Ca d mX12_isGood [vR (some (22, 0, a0))] (I, S) (.inl (some (vI z))) (I1, S1)) (k : Ev (d + 1) mX12_atlas (121, [some (vR (some (22, 0, a0))), some (vI x1), none], [vI z], (I1, S1)) r) : Ev (d + 1) mX12_atlas (117, [some (vR (some (22, 0, a0))), some (vI x1), none], [], (I, S)) r :=
  s_aload_n rfl rfl rfl <|
  s_cvI rfl rfl rfl rfl rfl c k
theorem b_X12_atlas_121 {d : Nat} {r : PO × PM} {I : Nat → Nat → Int} {S : PS} {a0 : Nat} {x1 xs0 : Int} (kt : xs0 ≠ 0 → Ev d mX12_atlas (139, [some (vR (some (22, 0, a0))), some (vI x1), none], [], (I, S)) r) (kf : xs0 = 0 → Ev d mX12_atlas (124, [some (vR (some (22, 0, a0))), some (vI x1), none], [], (I, S)) r) : Ev d mX12_atlas (121, [some (vR (some (22, 0, a0))), some (vI x1), none], [vI xs0], (I, S)) r :=
  s_if_ne 139 rfl rfl kt kf
theorem b_X12_atlas_124 {d : Nat} {I : Nat → Nat → Int} {S : PS} {a0 p1 q1 : Nat} {x1 : Int} (hr1 : S.1 a0 5 = some (0, q1, p1)) (hi2 : 0 < q1) (ho3 : -2147483648 ≤ I p1 0 + 1 ∧ I p1 0 + 1 ≤ 2147483647) (hi4 : 0 < q1) : Ev d mX12_atlas (124, [some (vR (some (22, 0, a0))), some (vI x1), none], [], (I, S)) (.inl (some (vI ((up2 I p1 0 (I p1 0 + 1)) a0 3))), ((up2 I p1 0 (I p1 0 + 1)), S)) :=
  s_aload_n rfl rfl rfl <|
  s_getR rfl rfl rfl hr1 <|
  s_iconst rfl rfl <|
  s_dup2 rfl rfl <|
  s_iald rfl rfl (p_lit (k := 0) hi2) <|
  s_iconst rfl rfl <|
  s_iaddp rfl ho3 <|
  s_iast rfl (p_lit (k := 0) hi4) <|
  s_aload_n rfl rfl rfl <|
  s_getI rfl rfl rfl <|
  s_ret rfl rfl
theorem b_X12_atlas_139 {d : Nat} {r : PO × PM} {I : Nat → Nat → Int} {S : PS} {a0 p1 q1 p2 q2 : Nat} {x1 : Int} {I1 : Nat → Nat → Int} {S1 : PS} (hr1 : S.1 a0 22 = some (0, q1, p1)) (hr2 : S.1 a0 19 = some (0, q2, p2)) (c : Ca d mX12_copies [vR (some (22, 0, a0)), vR (some (0, q1, p1)), vR (some (0, q2, p2))] ((up2 (up2 (up2 I a0 13 (I a0 16)) a0 14 ((up2 I a0 13 (I a0 16)) a0 17)) a0 15 ((up2 (up2 I a0 13 (I a0 16)) a0 14 ((up2 I a0 13 (I a0 16)) a0 17)) a0 18)), S) (.inl none) (I1, S1)) (k : Ev (d + 1) mX12_atlas (175, [some (vR (some (22, 0, a0))), some (vI x1), none], [], (I1, S1)) r) : Ev (d + 1) mX12_atlas (139, [some (vR (some (22, 0, a0))), some (vI x1), none], [], (I, S)) r :=
  s_aload_n rfl rfl rfl <|
  s_aload_n rfl rfl rfl <|
  s_getI rfl rfl rfl <|
  s_putI rfl rfl rfl <|
  s_aload_n rfl rfl rfl <|
  s_aload_n rfl rfl rfl <|
  s_getI rfl rfl rfl <|
  s_putI rfl rfl rfl <|
  s_aload_n rfl rfl rfl <|
  s_aload_n rfl rfl rfl <|
  s_getI rfl rfl rfl <|
  s_putI rfl rfl rfl <|
  s_aload_n rfl rfl rfl <|
  s_aload_n rfl rfl rfl <|
  s_getR rfl rfl rfl hr1 <|
  s_aload_n rfl rfl rfl <|
  s_getR rfl rfl rfl hr2 <|
  s_cvV rfl rfl rfl rfl rfl c k
theorem b_X12_atlas_175 {d : Nat} {r : PO × PM} {I : Nat → Nat → Int} {S : PS} {a0 p1 q1 p2 q2 : Nat} {x1 : Int} {I1 : Nat → Nat → Int} {S1 : PS} (hr1 : S.1 a0 23 = some (0, q1, p1)) (hr2 : S.1 a0 20 = some (0, q2, p2)) (c : Ca d mX12_copies [vR (some (22, 0, a0)), vR (some (0, q1, p1)), vR (some (0, q2, p2))] (I, S) (.inl none) (I1, S1)) (k : Ev (d + 1) mX12_atlas (187, [some (vR (some (22, 0, a0))), some (vI x1), none], [], (I1, S1)) r) : Ev (d + 1) mX12_atlas (175, [some (vR (some (22, 0, a0))), some (vI x1), none], [], (I, S)) r :=
  s_aload_n rfl rfl rfl <|
  s_aload_n rfl rfl rfl <|
  s_getR rfl rfl rfl hr1 <|
  s_aload_n rfl rfl rfl <|
  s_getR rfl rfl rfl hr2 <|
  s_cvV rfl rfl rfl rfl rfl c k
theorem b_X12_atlas_187 {d : Nat} {r : PO × PM} {I : Nat → Nat → Int} {S : PS} {a0 p1 q1 p2 q2 : Nat} {x1 : Int} {I1 : Nat → Nat → Int} {S1 : PS} (hr1 : S.1 a0 24 = some (0, q1, p1)) (hr2 : S.1 a0 21 = some (0, q2, p2)) (c : Ca d mX12_copies [vR (some (22, 0, a0)), vR (some (0, q1, p1)), vR (some (0, q2, p2))] (I, S) (.inl none) (I1, S1)) (k : Ev (d + 1) mX12_atlas (199, [some (vR (some (22, 0, a0))), some (vI x1), none], [], (I1, S1)) r) : Ev (d + 1) mX12_atlas (187, [some (vR (some (22, 0, a0))), some (vI x1), none], [], (I, S)) r :=
  s_aload_n rfl rfl rfl <|
  s_aload_n rfl rfl rfl <|
  s_getR rfl rfl rfl hr1 <|
  s_aload_n rfl rfl rfl <|
  s_getR rfl rfl rfl hr2 <|
  s_cvV rfl rfl rfl rfl rfl c k
theorem b_X12_atlas_199 {d : Nat} {r : PO × PM} {I : Nat → Nat → Int} {S : PS} {a0 p1 q1 p2 q2 : Nat} {x1 : Int} {I1 : Nat → Nat → Int} {S1 : PS} (hr1 : S.1 a0 26 = some (0, q1, p1)) (hr2 : S.1 a0 25 = some (0, q2, p2)) (c : Ca d mX12_copies [vR (some (22, 0, a0)), vR (some (0, q1, p1)), vR (some (0, q2, p2))] (I, S) (.inl none) (I1, S1)) (k : Ev (d + 1) mX12_atlas (211, [some (vR (some (22, 0, a0))), some (vI x1), none], [], (I1, S1)) r) : Ev (d + 1) mX12_atlas (199, [some (vR (some (22, 0, a0))), some (vI x1), none], [], (I, S)) r :=
  s_aload_n rfl rfl rfl <|
  s_aload_n rfl rfl rfl <|
  s_getR rfl rfl rfl hr1 <|
  s_aload_n rfl rfl rfl <|
  s_getR rfl rfl rfl hr2 <|
  s_cvV rfl rfl rfl rfl rfl c k
theorem b_X12_atlas_211 {d : Nat} {r : PO × PM} {I : Nat → Nat → Int} {S : PS} {a0 : Nat} {x1 : Int} (k : Ev d mX12_atlas (213, [some (vR (some (22, 0, a0))), some (vI x1), some (vI 0)], [], (I, S)) r) : Ev d mX12_atlas (211, [some (vR (some (22, 0, a0))), some (vI x1), none], [], (I, S)) r :=
  s_iconst rfl rfl <|
  s_istore_n [some (vR (some (22, 0, a0))), some (vI x1), some (vI 0)] rfl rfl <|
  k
theorem b_X12_atlas_213 {d : Nat} {r : PO × PM} {I : Nat → Nat → Int} {S : PS} {a0 : Nat} {x1 x2 : Int} (kt : 12 ≤ x2 → Ev d mX12_atlas (232, [some (vR (some (22, 0, a0))), some (vI x1), some (vI x2)], [], (I, S)) r) (kf : x2 < 12 → Ev d mX12_atlas (219, [some (vR (some (22, 0, a0))), some (vI x1), some (vI x2)], [], (I, S)) r) : Ev d mX12_atlas (213, [some (vR (some (22, 0, a0))), some (vI x1), some (vI x2)], [], (I, S)) r :=
  s_iload_n rfl rfl rfl <|
  s_bipush rfl rfl <|
  s_icmp_ge 232 rfl rfl kt kf
theorem b_X12_atlas_219 {d : Nat} {r : PO × PM} {I : Nat → Nat → Int} {S : PS} {a0 p1 q1 : Nat} {x1 x2 : Int} (hr1 : S.1 a0 39 = some (0, q1, p1)) (hi2 : 0 ≤ x2 ∧ x2 < (q1 : Nat)) (ho3 : -2147483648 ≤ x2 + 1 ∧ x2 + 1 ≤ 2147483647) (k : Ev d mX12_atlas (213, [some (vR (some (22, 0, a0))), some (vI x1), some (vI (x2 + 1))], [], ((up2 I p1 (x2.toNat) (-1)), S)) r) : Ev d mX12_atlas (219, [some (vR (some (22, 0, a0))), some (vI x1), some (vI x2)], [], (I, S)) r :=
  s_aload_n rfl rfl rfl <|
  s_getR rfl rfl rfl hr1 <|
  s_iload_n rfl rfl rfl <|
  s_iconst rfl rfl <|
  s_iast rfl hi2 <|
  s_iincp [some (vR (some (22, 0, a0))), some (vI x1), some (vI (x2 + 1))] rfl rfl ho3 rfl <|
  s_goto 213 rfl rfl k
theorem b_X12_atlas_232 {d : Nat} {r : PO × PM} {I : Nat → Nat → Int} {S : PS} {a0 : Nat} {x1 x2 : Int} (k : Ev d mX12_atlas (234, [some (vR (some (22, 0, a0))), some (vI x1), some (vI 0)], [], (I, S)) r) : Ev d mX12_atlas (232, [some (vR (some (22, 0, a0))), some (vI x1), some (vI x2)], [], (I, S)) r :=
  s_iconst rfl rfl <|
  s_istore_n [some (vR (some (22, 0, a0))), some (vI x1), some (vI 0)] rfl rfl <|
  k
theorem b_X12_atlas_234 {d : Nat} {r : PO × PM} {I : Nat → Nat → Int} {S : PS} {a0 : Nat} {x1 x2 : Int} (kt : 6 ≤ x2 → Ev d mX12_atlas (276, [some (vR (some (22, 0, a0))), some (vI x1), some (vI x2)], [], (I, S)) r) (kf : x2 < 6 → Ev d mX12_atlas (240, [some (vR (some (22, 0, a0))), some (vI x1), some (vI x2)], [], (I, S)) r) : Ev d mX12_atlas (234, [some (vR (some (22, 0, a0))), some (vI x1), some (vI x2)], [], (I, S)) r :=
  s_iload_n rfl rfl rfl <|
  s_bipush rfl rfl <|
  s_icmp_ge 276 rfl rfl kt kf
theorem b_X12_atlas_240 {d : Nat} {r : PO × PM} {I : Nat → Nat → Int} {S : PS} {a0 p1 q1 : Nat} {x1 x2 : Int} (hr1 : S.1 a0 39 = some (0, q1, p1)) (ho2 : -2147483648 ≤ 12 + x2 ∧ 12 + x2 ≤ 2147483647) (kt : I a0 14 ≤ x2 → Ev d mX12_atlas (268, [some (vR (some (22, 0, a0))), some (vI x1), some (vI x2)], [vI (12 + x2), vR (some (0, q1, p1))], (I, S)) r) (kf : x2 < I a0 14 → Ev d mX12_atlas (256, [some (vR (some (22, 0, a0))), some (vI x1), some (vI x2)], [vI (12 + x2), vR (some (0, q1, p1))], (I, S)) r) : Ev d mX12_atlas (240, [some (vR (some (22, 0, a0))), some (vI x1), some (vI x2)], [], (I, S)) r :=
  s_aload_n rfl rfl rfl <|
  s_getR rfl rfl rfl hr1 <|
  s_bipush rfl rfl <|
  s_iload_n rfl rfl rfl <|
  s_iaddp rfl ho2 <|
  s_iload_n rfl rfl rfl <|
  s_aload_n rfl rfl rfl <|
  s_getI rfl rfl rfl <|
  s_icmp_ge 268 rfl rfl kt kf
theorem b_X12_atlas_256 {d : Nat} {r : PO × PM} {I : Nat → Nat → Int} {S : PS} {a0 ns0 as0 p1 q1 : Nat} {x1 x2 xs1 : Int} (hr1 : S.1 a0 20 = some (0, q1, p1)) (ho2 : -2147483648 ≤ 8 * x2 ∧ 8 * x2 ≤ 2147483647) (hi3 : 0 ≤ 8 * x2 ∧ 8 * x2 < (q1 : Nat)) (k : Ev d mX12_atlas (269, [some (vR (some (22, 0, a0))), some (vI x1), some (vI x2)], [vI (I p1 (8 * x2).toNat), vI xs1, vR (some (0, ns0, as0))], (I, S)) r) : Ev d mX12_atlas (256, [some (vR (some (22, 0, a0))), some (vI x1), some (vI x2)], [vI xs1, vR (some (0, ns0, as0))], (I, S)) r :=
  s_aload_n rfl rfl rfl <|
  s_getR rfl rfl rfl hr1 <|
  s_bipush rfl rfl <|
  s_iload_n rfl rfl rfl <|
  s_imulp rfl ho2 <|
  s_iald rfl rfl hi3 <|
  s_goto 269 rfl rfl k
theorem b_X12_atlas_268 {d : Nat} {r : PO × PM} {I : Nat → Nat → Int} {S : PS} {a0 ns0 as0 : Nat} {x1 x2 xs1 : Int} (k : Ev d mX12_atlas (269, [some (vR (some (22, 0, a0))), some (vI x1), some (vI x2)], [vI 0, vI xs1, vR (some (0, ns0, as0))], (I, S)) r) : Ev d mX12_atlas (268, [some (vR (some (22, 0, a0))), some (vI x1), some (vI x2)], [vI xs1, vR (some (0, ns0, as0))], (I, S)) r :=
  s_iconst rfl rfl <|
  k
theorem b_X12_atlas_269 {d : Nat} {r : PO × PM} {I : Nat → Nat → Int} {S : PS} {a0 ns0 as0 : Nat} {x1 x2 xs1 xs2 : Int} (hi1 : 0 ≤ xs1 ∧ xs1 < (ns0 : Nat)) (ho2 : -2147483648 ≤ x2 + 1 ∧ x2 + 1 ≤ 2147483647) (k : Ev d mX12_atlas (234, [some (vR (some (22, 0, a0))), some (vI x1), some (vI (x2 + 1))], [], ((up2 I as0 (xs1.toNat) xs2), S)) r) : Ev d mX12_atlas (269, [some (vR (some (22, 0, a0))), some (vI x1), some (vI x2)], [vI xs2, vI xs1, vR (some (0, ns0, as0))], (I, S)) r :=
  s_iast rfl hi1 <|
  s_iincp [some (vR (some (22, 0, a0))), some (vI x1), some (vI (x2 + 1))] rfl rfl ho2 rfl <|
  s_goto 234 rfl rfl k
theorem b_X12_atlas_276 {d : Nat} {r : PO × PM} {I : Nat → Nat → Int} {S : PS} {a0 : Nat} {x1 x2 : Int} (k : Ev d mX12_atlas (278, [some (vR (some (22, 0, a0))), some (vI x1), some (vI 0)], [], (I, S)) r) : Ev d mX12_atlas (276, [some (vR (some (22, 0, a0))), some (vI x1), some (vI x2)], [], (I, S)) r :=
  s_iconst rfl rfl <|
  s_istore_n [some (vR (some (22, 0, a0))), some (vI x1), some (vI 0)] rfl rfl <|
  k
theorem b_X12_atlas_278 {d : Nat} {r : PO × PM} {I : Nat → Nat → Int} {S : PS} {a0 : Nat} {x1 x2 : Int} (kt : I a0 13 ≤ x2 → Ev d mX12_atlas (297, [some (vR (some (22, 0, a0))), some (vI x1), some (vI x2)], [], (I, S)) r) (kf : x2 < I a0 13 → Ev d mX12_atlas (286, [some (vR (some (22, 0, a0))), some (vI x1), some (vI x2)], [], (I, S)) r) : Ev d mX12_atlas (278, [some (vR (some (22, 0, a0))), some (vI x1), some (vI x2)], [], (I, S)) r :=
  s_iload_n rfl rfl rfl <|
  s_aload_n rfl rfl rfl <|
  s_getI rfl rfl rfl <|
  s_icmp_ge 297 rfl rfl kt kf
theorem b_X12_atlas_286 {d : Nat} {r : PO × PM} {I : Nat → Nat → Int} {S : PS} {a0 : Nat} {x1 x2 : Int} {I1 : Nat → Nat → Int} {S1 : PS} (c : Ca d mX12_laysPiece [vR (some (22, 0, a0)), vI x2] (I, S) (.inl none) (I1, S1)) (k : Ev (d + 1) mX12_atlas (291, [some (vR (some (22, 0, a0))), some (vI x1), some (vI x2)], [], (I1, S1)) r) : Ev (d + 1) mX12_atlas (286, [some (vR (some (22, 0, a0))), some (vI x1), some (vI x2)], [], (I, S)) r :=
  s_aload_n rfl rfl rfl <|
  s_iload_n rfl rfl rfl <|
  s_cvV rfl rfl rfl rfl rfl c k
theorem b_X12_atlas_291 {d : Nat} {r : PO × PM} {I : Nat → Nat → Int} {S : PS} {a0 : Nat} {x1 x2 : Int} (ho1 : -2147483648 ≤ x2 + 1 ∧ x2 + 1 ≤ 2147483647) (k : Ev d mX12_atlas (278, [some (vR (some (22, 0, a0))), some (vI x1), some (vI (x2 + 1))], [], (I, S)) r) : Ev d mX12_atlas (291, [some (vR (some (22, 0, a0))), some (vI x1), some (vI x2)], [], (I, S)) r :=
  s_iincp [some (vR (some (22, 0, a0))), some (vI x1), some (vI (x2 + 1))] rfl rfl ho1 rfl <|
  s_goto 278 rfl rfl k
theorem b_X12_atlas_297 {d : Nat} {I : Nat → Nat → Int} {S : PS} {a0 : Nat} {x1 x2 : Int} : Ev d mX12_atlas (297, [some (vR (some (22, 0, a0))), some (vI x1), some (vI x2)], [], (I, S)) (.inl (some (vI 0)), ((up2 (up2 (up2 (up2 (up2 I a0 41 0) a0 56 0) a0 59 0) a0 47 0) a0 49 (-1)), S)) :=
  s_aload_n rfl rfl rfl <|
  s_iconst rfl rfl <|
  s_putI rfl rfl rfl <|
  s_aload_n rfl rfl rfl <|
  s_iconst rfl rfl <|
  s_putI rfl rfl rfl <|
  s_aload_n rfl rfl rfl <|
  s_iconst rfl rfl <|
  s_putZ rfl rfl rfl (Or.inl rfl) <|
  s_aload_n rfl rfl rfl <|
  s_iconst rfl rfl <|
  s_putZ rfl rfl rfl (Or.inl rfl) <|
  s_aload_n rfl rfl rfl <|
  s_iconst rfl rfl <|
  s_putI rfl rfl rfl <|
  s_iconst rfl rfl <|
  s_ret rfl rfl
theorem b_X12_fault_0 {d : Nat} {I : Nat → Nat → Int} {S : PS} {a0 : Nat} : Ev d mX12_fault (0, [some (vR (some (22, 0, a0)))], [], (I, S)) (.inl (some (vI ((up2 I a0 0 0) a0 4))), ((up2 I a0 0 0), S)) :=
  s_aload_n rfl rfl rfl <|
  s_iconst rfl rfl <|
  s_putI rfl rfl rfl <|
  s_aload_n rfl rfl rfl <|
  s_getI rfl rfl rfl <|
  s_ret rfl rfl
theorem b_X12_ring_0 {d : Nat} {I : Nat → Nat → Int} {S : PS} {a0 p1 q1 : Nat} {x1 : Int} (hr1 : S.1 a0 19 = some (0, q1, p1)) (ho2 : -2147483648 ≤ 20 * x1 ∧ 20 * x1 ≤ 2147483647) (ho3 : -2147483648 ≤ (20 * x1) + 9 ∧ (20 * x1) + 9 ≤ 2147483647) (hi4 : 0 ≤ (20 * x1) + 9 ∧ (20 * x1) + 9 < (q1 : Nat)) : Ev d mX12_ring (0, [some (vR (some (22, 0, a0))), some (vI x1)], [], (I, S)) (.inl (some (vI (I p1 ((20 * x1) + 9).toNat))), (I, S)) :=
  s_aload_n rfl rfl rfl <|
  s_getR rfl rfl rfl hr1 <|
  s_bipush rfl rfl <|
  s_iload_n rfl rfl rfl <|
  s_imulp rfl ho2 <|
  s_bipush rfl rfl <|
  s_iaddp rfl ho3 <|
  s_iald rfl rfl hi4 <|
  s_ret rfl rfl
theorem b_X12_vertices_0 {d : Nat} {r : PO × PM} {I : Nat → Nat → Int} {S : PS} {a0 : Nat} {x1 z : Int} {I1 : Nat → Nat → Int} {S1 : PS} (c : Ca d mX12_ring [vR (some (22, 0, a0)), vI x1] (I, S) (.inl (some (vI z))) (I1, S1)) (k : Ev (d + 1) mX12_vertices (5, [some (vR (some (22, 0, a0))), some (vI x1)], [vI z], (I1, S1)) r) : Ev (d + 1) mX12_vertices (0, [some (vR (some (22, 0, a0))), some (vI x1)], [], (I, S)) r :=
  s_aload_n rfl rfl rfl <|
  s_iload_n rfl rfl rfl <|
  s_cvI rfl rfl rfl rfl rfl c k
theorem b_X12_vertices_5 {d : Nat} {I : Nat → Nat → Int} {S : PS} {a0 p2 q2 : Nat} {x1 xs0 : Int} (ho1 : -2147483648 ≤ xs0 + 1 ∧ xs0 + 1 ≤ 2147483647) (hr2 : S.1 a0 19 = some (0, q2, p2)) (ho3 : -2147483648 ≤ 20 * x1 ∧ 20 * x1 ≤ 2147483647) (ho4 : -2147483648 ≤ (20 * x1) + 1 ∧ (20 * x1) + 1 ≤ 2147483647) (hi5 : 0 ≤ (20 * x1) + 1 ∧ (20 * x1) + 1 < (q2 : Nat)) (ho6 : -2147483648 ≤ xs0 + 1 + (I p2 ((20 * x1) + 1).toNat) ∧ xs0 + 1 + (I p2 ((20 * x1) + 1).toNat) ≤ 2147483647) : Ev d mX12_vertices (5, [some (vR (some (22, 0, a0))), some (vI x1)], [vI xs0], (I, S)) (.inl (some (vI (xs0 + 1 + (I p2 ((20 * x1) + 1).toNat)))), (I, S)) :=
  s_iconst rfl rfl <|
  s_iaddp rfl ho1 <|
  s_aload_n rfl rfl rfl <|
  s_getR rfl rfl rfl hr2 <|
  s_bipush rfl rfl <|
  s_iload_n rfl rfl rfl <|
  s_imulp rfl ho3 <|
  s_iconst rfl rfl <|
  s_iaddp rfl ho4 <|
  s_iald rfl rfl hi5 <|
  s_iaddp rfl ho6 <|
  s_ret rfl rfl
theorem b_X12_colourAt_0 {d : Nat} {r : PO × PM} {I : Nat → Nat → Int} {S : PS} {a0 : Nat} {x1 x2 x3 z : Int} {I1 : Nat → Nat → Int} {S1 : PS} (c : Ca d mX12_ring [vR (some (22, 0, a0)), vI x1] (I, S) (.inl (some (vI z))) (I1, S1)) (k : Ev (d + 1) mX12_colourAt (7, [some (vR (some (22, 0, a0))), some (vI x1), some (vI x2), some (vI x3)], [vI z, vI 2, vI x2], (I1, S1)) r) : Ev (d + 1) mX12_colourAt (0, [some (vR (some (22, 0, a0))), some (vI x1), some (vI x2), some (vI x3)], [], (I, S)) r :=
  s_iload_n rfl rfl rfl <|
  s_iconst rfl rfl <|
  s_aload_n rfl rfl rfl <|
  s_iload_n rfl rfl rfl <|
  s_cvI rfl rfl rfl rfl rfl c k
theorem b_X12_colourAt_7 {d : Nat} {I : Nat → Nat → Int} {S : PS} {a0 : Nat} {x1 x2 x3 xs0 xs1 xs2 : Int} (ho1 : -2147483648 ≤ xs2 - 1 ∧ xs2 - 1 ≤ 2147483647) (ho2 : -2147483648 ≤ xs2 - 1 - x3 ∧ xs2 - 1 - x3 ≤ 2147483647) (ho3 : -2147483648 ≤ xs1 * (xs2 - 1 - x3) ∧ xs1 * (xs2 - 1 - x3) ≤ 2147483647) : Ev d mX12_colourAt (7, [some (vR (some (22, 0, a0))), some (vI x1), some (vI x2), some (vI x3)], [vI xs2, vI xs1, vI xs0], (I, S)) (.inl (some (vI (p_and (p_shr xs0 (xs1 * (xs2 - 1 - x3))) 3))), (I, S)) :=
  s_iconst rfl rfl <|
  s_isubp rfl ho1 <|
  s_iload_n rfl rfl rfl <|
  s_isubp rfl ho2 <|
  s_imulp rfl ho3 <|
  s_ishr rfl <|
  s_iconst rfl rfl <|
  s_iand rfl <|
  s_ret rfl rfl
theorem b_X12_named0_0 {d : Nat} {r : PO × PM} {I : Nat → Nat → Int} {S : PS} {a0 : Nat} {x1 x2 : Int} (k : Ev d mX12_named0 (8, [some (vR (some (22, 0, a0))), some (vI x1), some (vI x2), some (vI 0), some (vI 0), some (vI 0), none], [], (I, S)) r) : Ev d mX12_named0 (0, [some (vR (some (22, 0, a0))), some (vI x1), some (vI x2), none, none, none, none], [], (I, S)) r :=
  s_iconst rfl rfl <|
  s_istore_n [some (vR (some (22, 0, a0))), some (vI x1), some (vI x2), some (vI 0), none, none, none] rfl rfl <|
  s_iconst rfl rfl <|
  s_istore [some (vR (some (22, 0, a0))), some (vI x1), some (vI x2), some (vI 0), some (vI 0), none, none] rfl rfl <|
  s_iconst rfl rfl <|
  s_istore [some (vR (some (22, 0, a0))), some (vI x1), some (vI x2), some (vI 0), some (vI 0), some (vI 0), none] rfl rfl <|
  k
theorem b_X12_named0_8 {d : Nat} {r : PO × PM} {I : Nat → Nat → Int} {S : PS} {a0 : Nat} {x1 x2 x3 x4 x5 : Int} (kt : 4 ≤ x5 → Ev d mX12_named0 (28, [some (vR (some (22, 0, a0))), some (vI x1), some (vI x2), some (vI x3), some (vI x4), some (vI x5), none], [], (I, S)) r) (kf : x5 < 4 → Ev d mX12_named0 (14, [some (vR (some (22, 0, a0))), some (vI x1), some (vI x2), some (vI x3), some (vI x4), some (vI x5), none], [], (I, S)) r) : Ev d mX12_named0 (8, [some (vR (some (22, 0, a0))), some (vI x1), some (vI x2), some (vI x3), some (vI x4), some (vI x5), none], [], (I, S)) r :=
  s_iload rfl rfl rfl <|
  s_iconst rfl rfl <|
  s_icmp_ge 28 rfl rfl kt kf
theorem b_X12_named0_14 {d : Nat} {r : PO × PM} {I : Nat → Nat → Int} {S : PS} {a0 p1 q1 : Nat} {x1 x2 x3 x4 x5 : Int} (hr1 : S.1 a0 34 = some (0, q1, p1)) (hi2 : 0 ≤ x5 ∧ x5 < (q1 : Nat)) (ho3 : -2147483648 ≤ x5 + 1 ∧ x5 + 1 ≤ 2147483647) (k : Ev d mX12_named0 (8, [some (vR (some (22, 0, a0))), some (vI x1), some (vI x2), some (vI x3), some (vI x4), some (vI (x5 + 1)), none], [], ((up2 I p1 (x5.toNat) (-1)), S)) r) : Ev d mX12_named0 (14, [some (vR (some (22, 0, a0))), some (vI x1), some (vI x2), some (vI x3), some (vI x4), some (vI x5), none], [], (I, S)) r :=
  s_aload_n rfl rfl rfl <|
  s_getR rfl rfl rfl hr1 <|
  s_iload rfl rfl rfl <|
  s_iconst rfl rfl <|
  s_iast rfl hi2 <|
  s_iincp [some (vR (some (22, 0, a0))), some (vI x1), some (vI x2), some (vI x3), some (vI x4), some (vI (x5 + 1)), none] rfl rfl ho3 rfl <|
  s_goto 8 rfl rfl k
theorem b_X12_named0_28 {d : Nat} {r : PO × PM} {I : Nat → Nat → Int} {S : PS} {a0 : Nat} {x1 x2 x3 x4 x5 : Int} (k : Ev d mX12_named0 (31, [some (vR (some (22, 0, a0))), some (vI x1), some (vI x2), some (vI x3), some (vI x4), some (vI 0), none], [], (I, S)) r) : Ev d mX12_named0 (28, [some (vR (some (22, 0, a0))), some (vI x1), some (vI x2), some (vI x3), some (vI x4), some (vI x5), none], [], (I, S)) r :=
  s_iconst rfl rfl <|
  s_istore [some (vR (some (22, 0, a0))), some (vI x1), some (vI x2), some (vI x3), some (vI x4), some (vI 0), none] rfl rfl <|
  k
theorem b_X12_named0_31 {d : Nat} {r : PO × PM} {I : Nat → Nat → Int} {S : PS} {a0 : Nat} {x1 x2 x3 x4 x5 z : Int} {I1 : Nat → Nat → Int} {S1 : PS} (c : Ca d mX12_ring [vR (some (22, 0, a0)), vI x1] (I, S) (.inl (some (vI z))) (I1, S1)) (k : Ev (d + 1) mX12_named0 (38, [some (vR (some (22, 0, a0))), some (vI x1), some (vI x2), some (vI x3), some (vI x4), some (vI x5), none], [vI z, vI x5], (I1, S1)) r) : Ev (d + 1) mX12_named0 (31, [some (vR (some (22, 0, a0))), some (vI x1), some (vI x2), some (vI x3), some (vI x4), some (vI x5), none], [], (I, S)) r :=
  s_iload rfl rfl rfl <|
  s_aload_n rfl rfl rfl <|
  s_iload_n rfl rfl rfl <|
  s_cvI rfl rfl rfl rfl rfl c k
theorem b_X12_named0_38 {d : Nat} {r : PO × PM} {I : Nat → Nat → Int} {S : PS} {a0 : Nat} {x1 x2 x3 x4 x5 xs0 xs1 : Int} (kt : xs1 ≤ xs0 → Ev d mX12_named0 (92, [some (vR (some (22, 0, a0))), some (vI x1), some (vI x2), some (vI x3), some (vI x4), some (vI x5), none], [], (I, S)) r) (kf : xs0 < xs1 → Ev d mX12_named0 (41, [some (vR (some (22, 0, a0))), some (vI x1), some (vI x2), some (vI x3), some (vI x4), some (vI x5), none], [], (I, S)) r) : Ev d mX12_named0 (38, [some (vR (some (22, 0, a0))), some (vI x1), some (vI x2), some (vI x3), some (vI x4), some (vI x5), none], [vI xs1, vI xs0], (I, S)) r :=
  s_icmp_ge 92 rfl rfl kt kf
theorem b_X12_named0_41 {d : Nat} {r : PO × PM} {I : Nat → Nat → Int} {S : PS} {a0 : Nat} {x1 x2 x3 x4 x5 z : Int} {I1 : Nat → Nat → Int} {S1 : PS} (c : Ca d mX12_colourAt [vR (some (22, 0, a0)), vI x1, vI x2, vI x5] (I, S) (.inl (some (vI z))) (I1, S1)) (k : Ev (d + 1) mX12_named0 (49, [some (vR (some (22, 0, a0))), some (vI x1), some (vI x2), some (vI x3), some (vI x4), some (vI x5), none], [vI z], (I1, S1)) r) : Ev (d + 1) mX12_named0 (41, [some (vR (some (22, 0, a0))), some (vI x1), some (vI x2), some (vI x3), some (vI x4), some (vI x5), none], [], (I, S)) r :=
  s_aload_n rfl rfl rfl <|
  s_iload_n rfl rfl rfl <|
  s_iload_n rfl rfl rfl <|
  s_iload rfl rfl rfl <|
  s_cvI rfl rfl rfl rfl rfl c k
theorem b_X12_named0_49 {d : Nat} {r : PO × PM} {I : Nat → Nat → Int} {S : PS} {a0 p1 q1 : Nat} {x1 x2 x3 x4 x5 xs0 : Int} (hr1 : S.1 a0 34 = some (0, q1, p1)) (hi2 : 0 ≤ xs0 ∧ xs0 < (q1 : Nat)) (kt : I p1 xs0.toNat ≠ (-1) → Ev d mX12_named0 (74, [some (vR (some (22, 0, a0))), some (vI x1), some (vI x2), some (vI x3), some (vI x4), some (vI x5), some (vI xs0)], [], (I, S)) r) (kf : I p1 xs0.toNat = (-1) → Ev d mX12_named0 (62, [some (vR (some (22, 0, a0))), some (vI x1), some (vI x2), some (vI x3), some (vI x4), some (vI x5), some (vI xs0)], [], (I, S)) r) : Ev d mX12_named0 (49, [some (vR (some (22, 0, a0))), some (vI x1), some (vI x2), some (vI x3), some (vI x4), some (vI x5), none], [vI xs0], (I, S)) r :=
  s_istore [some (vR (some (22, 0, a0))), some (vI x1), some (vI x2), some (vI x3), some (vI x4), some (vI x5), some (vI xs0)] rfl rfl <|
  s_aload_n rfl rfl rfl <|
  s_getR rfl rfl rfl hr1 <|
  s_iload rfl rfl rfl <|
  s_iald rfl rfl hi2 <|
  s_iconst rfl rfl <|
  s_icmp_ne 74 rfl rfl kt kf
theorem b_X12_named0_62 {d : Nat} {r : PO × PM} {I : Nat → Nat → Int} {S : PS} {a0 p1 q1 : Nat} {x1 x2 x3 x4 x5 x6 : Int} (hr1 : S.1 a0 34 = some (0, q1, p1)) (hi2 : 0 ≤ x6 ∧ x6 < (q1 : Nat)) (ho3 : -2147483648 ≤ x4 + 1 ∧ x4 + 1 ≤ 2147483647) (k : Ev d mX12_named0 (74, [some (vR (some (22, 0, a0))), some (vI x1), some (vI x2), some (vI x3), some (vI (x4 + 1)), some (vI x5), some (vI x6)], [], ((up2 I p1 (x6.toNat) x4), S)) r) : Ev d mX12_named0 (62, [some (vR (some (22, 0, a0))), some (vI x1), some (vI x2), some (vI x3), some (vI x4), some (vI x5), some (vI x6)], [], (I, S)) r :=
  s_aload_n rfl rfl rfl <|
  s_getR rfl rfl rfl hr1 <|
  s_iload rfl rfl rfl <|
  s_iload rfl rfl rfl <|
  s_iast rfl hi2 <|
  s_iincp [some (vR (some (22, 0, a0))), some (vI x1), some (vI x2), some (vI x3), some (vI (x4 + 1)), some (vI x5), some (vI x6)] rfl rfl ho3 rfl <|
  k
theorem b_X12_named0_74 {d : Nat} {r : PO × PM} {I : Nat → Nat → Int} {S : PS} {a0 p1 q1 : Nat} {x1 x2 x3 x4 x5 x6 : Int} (hr1 : S.1 a0 34 = some (0, q1, p1)) (hi2 : 0 ≤ x6 ∧ x6 < (q1 : Nat)) (ho3 : -2147483648 ≤ x5 + 1 ∧ x5 + 1 ≤ 2147483647) (k : Ev d mX12_named0 (31, [some (vR (some (22, 0, a0))), some (vI x1), some (vI x2), some (vI (p_or (p_shl x3 2) (I p1 x6.toNat))), some (vI x4), some (vI (x5 + 1)), none], [], (I, S)) r) : Ev d mX12_named0 (74, [some (vR (some (22, 0, a0))), some (vI x1), some (vI x2), some (vI x3), some (vI x4), some (vI x5), some (vI x6)], [], (I, S)) r :=
  s_iload_n rfl rfl rfl <|
  s_iconst rfl rfl <|
  s_ishl rfl <|
  s_aload_n rfl rfl rfl <|
  s_getR rfl rfl rfl hr1 <|
  s_iload rfl rfl rfl <|
  s_iald rfl rfl hi2 <|
  s_ior rfl <|
  s_istore_n [some (vR (some (22, 0, a0))), some (vI x1), some (vI x2), some (vI (p_or (p_shl x3 2) (I p1 x6.toNat))), some (vI x4), some (vI x5), some (vI x6)] rfl rfl <|
  s_iincp [some (vR (some (22, 0, a0))), some (vI x1), some (vI x2), some (vI (p_or (p_shl x3 2) (I p1 x6.toNat))), some (vI x4), some (vI (x5 + 1)), some (vI x6)] rfl rfl ho3 rfl <|
  s_goto 31 rfl rfl (ev_forget [false, false, false, false, false, false, true] rfl k)
theorem b_X12_named0_92 {d : Nat} {I : Nat → Nat → Int} {S : PS} {a0 : Nat} {x1 x2 x3 x4 x5 : Int} : Ev d mX12_named0 (92, [some (vR (some (22, 0, a0))), some (vI x1), some (vI x2), some (vI x3), some (vI x4), some (vI x5), none], [], (I, S)) (.inl (some (vI x3)), (I, S)) :=
  s_iload_n rfl rfl rfl <|
  s_ret rfl rfl
theorem b_X12_isProper_0 {d : Nat} {r : PO × PM} {I : Nat → Nat → Int} {S : PS} {a0 : Nat} {x1 x2 : Int} (k : Ev d mX12_isProper (2, [some (vR (some (22, 0, a0))), some (vI x1), some (vI x2), some (vI 0)], [], (I, S)) r) : Ev d mX12_isProper (0, [some (vR (some (22, 0, a0))), some (vI x1), some (vI x2), none], [], (I, S)) r :=
  s_iconst rfl rfl <|
  s_istore_n [some (vR (some (22, 0, a0))), some (vI x1), some (vI x2), some (vI 0)] rfl rfl <|
  k
theorem b_X12_isProper_2 {d : Nat} {r : PO × PM} {I : Nat → Nat → Int} {S : PS} {a0 : Nat} {x1 x2 x3 z : Int} {I1 : Nat → Nat → Int} {S1 : PS} (c : Ca d mX12_ring [vR (some (22, 0, a0)), vI x1] (I, S) (.inl (some (vI z))) (I1, S1)) (k : Ev (d + 1) mX12_isProper (8, [some (vR (some (22, 0, a0))), some (vI x1), some (vI x2), some (vI x3)], [vI z, vI x3], (I1, S1)) r) : Ev (d + 1) mX12_isProper (2, [some (vR (some (22, 0, a0))), some (vI x1), some (vI x2), some (vI x3)], [], (I, S)) r :=
  s_iload_n rfl rfl rfl <|
  s_aload_n rfl rfl rfl <|
  s_iload_n rfl rfl rfl <|
  s_cvI rfl rfl rfl rfl rfl c k
theorem b_X12_isProper_8 {d : Nat} {r : PO × PM} {I : Nat → Nat → Int} {S : PS} {a0 : Nat} {x1 x2 x3 xs0 xs1 : Int} (kt : xs1 ≤ xs0 → Ev d mX12_isProper (44, [some (vR (some (22, 0, a0))), some (vI x1), some (vI x2), some (vI x3)], [], (I, S)) r) (kf : xs0 < xs1 → Ev d mX12_isProper (11, [some (vR (some (22, 0, a0))), some (vI x1), some (vI x2), some (vI x3)], [], (I, S)) r) : Ev d mX12_isProper (8, [some (vR (some (22, 0, a0))), some (vI x1), some (vI x2), some (vI x3)], [vI xs1, vI xs0], (I, S)) r :=
  s_icmp_ge 44 rfl rfl kt kf
theorem b_X12_isProper_11 {d : Nat} {r : PO × PM} {I : Nat → Nat → Int} {S : PS} {a0 : Nat} {x1 x2 x3 z : Int} {I1 : Nat → Nat → Int} {S1 : PS} (c : Ca d mX12_colourAt [vR (some (22, 0, a0)), vI x1, vI x2, vI x3] (I, S) (.inl (some (vI z))) (I1, S1)) (k : Ev (d + 1) mX12_isProper (18, [some (vR (some (22, 0, a0))), some (vI x1), some (vI x2), some (vI x3)], [vI z], (I1, S1)) r) : Ev (d + 1) mX12_isProper (11, [some (vR (some (22, 0, a0))), some (vI x1), some (vI x2), some (vI x3)], [], (I, S)) r :=
  s_aload_n rfl rfl rfl <|
  s_iload_n rfl rfl rfl <|
  s_iload_n rfl rfl rfl <|
  s_iload_n rfl rfl rfl <|
  s_cvI rfl rfl rfl rfl rfl c k
theorem b_X12_isProper_18 {d : Nat} {r : PO × PM} {I : Nat → Nat → Int} {S : PS} {a0 : Nat} {x1 x2 x3 xs0 z : Int} {I1 : Nat → Nat → Int} {S1 : PS} (ho1 : -2147483648 ≤ x3 + 1 ∧ x3 + 1 ≤ 2147483647) (c : Ca d mX12_ring [vR (some (22, 0, a0)), vI x1] (I, S) (.inl (some (vI z))) (I1, S1)) (k : Ev (d + 1) mX12_isProper (29, [some (vR (some (22, 0, a0))), some (vI x1), some (vI x2), some (vI x3)], [vI z, vI (x3 + 1), vI x2, vI x1, vR (some (22, 0, a0)), vI xs0], (I1, S1)) r) : Ev (d + 1) mX12_isProper (18, [some (vR (some (22, 0, a0))), some (vI x1), some (vI x2), some (vI x3)], [vI xs0], (I, S)) r :=
  s_aload_n rfl rfl rfl <|
  s_iload_n rfl rfl rfl <|
  s_iload_n rfl rfl rfl <|
  s_iload_n rfl rfl rfl <|
  s_iconst rfl rfl <|
  s_iaddp rfl ho1 <|
  s_aload_n rfl rfl rfl <|
  s_iload_n rfl rfl rfl <|
  s_cvI rfl rfl rfl rfl rfl c k
theorem b_X12_isProper_29 {d : Nat} {r : PO × PM} {I : Nat → Nat → Int} {S : PS} {a0 as1 : Nat} {x1 x2 x3 xs0 xs2 xs3 xs4 xs5 z : Int} {I1 : Nat → Nat → Int} {S1 : PS} (hd1 : (0 ≤ xs4 ∧ xs4 ≤ 2147483647) ∧ 0 < xs5 ∧ xs5 ≤ 2147483647) (c : Ca d mX12_colourAt [vR (some (22, 0, as1)), vI xs2, vI xs3, vI (xs4 % xs5)] (I, S) (.inl (some (vI z))) (I1, S1)) (k : Ev (d + 1) mX12_isProper (33, [some (vR (some (22, 0, a0))), some (vI x1), some (vI x2), some (vI x3)], [vI z, vI xs0], (I1, S1)) r) : Ev (d + 1) mX12_isProper (29, [some (vR (some (22, 0, a0))), some (vI x1), some (vI x2), some (vI x3)], [vI xs5, vI xs4, vI xs3, vI xs2, vR (some (22, 0, as1)), vI xs0], (I, S)) r :=
  s_iremp rfl hd1 <|
  s_cvI rfl rfl rfl rfl rfl c k
theorem b_X12_isProper_33 {d : Nat} {r : PO × PM} {I : Nat → Nat → Int} {S : PS} {a0 : Nat} {x1 x2 x3 xs0 xs1 : Int} (kt : xs0 ≠ xs1 → Ev d mX12_isProper (38, [some (vR (some (22, 0, a0))), some (vI x1), some (vI x2), some (vI x3)], [], (I, S)) r) (kf : xs0 = xs1 → Ev d mX12_isProper (36, [some (vR (some (22, 0, a0))), some (vI x1), some (vI x2), some (vI x3)], [], (I, S)) r) : Ev d mX12_isProper (33, [some (vR (some (22, 0, a0))), some (vI x1), some (vI x2), some (vI x3)], [vI xs1, vI xs0], (I, S)) r :=
  s_icmp_ne 38 rfl rfl kt kf
theorem b_X12_isProper_36 {d : Nat} {I : Nat → Nat → Int} {S : PS} {a0 : Nat} {x1 x2 x3 : Int} : Ev d mX12_isProper (36, [some (vR (some (22, 0, a0))), some (vI x1), some (vI x2), some (vI x3)], [], (I, S)) (.inl (some (vI 0)), (I, S)) :=
  s_iconst rfl rfl <|
  s_ret rfl rfl
theorem b_X12_isProper_38 {d : Nat} {r : PO × PM} {I : Nat → Nat → Int} {S : PS} {a0 : Nat} {x1 x2 x3 : Int} (ho1 : -2147483648 ≤ x3 + 1 ∧ x3 + 1 ≤ 2147483647) (k : Ev d mX12_isProper (2, [some (vR (some (22, 0, a0))), some (vI x1), some (vI x2), some (vI (x3 + 1))], [], (I, S)) r) : Ev d mX12_isProper (38, [some (vR (some (22, 0, a0))), some (vI x1), some (vI x2), some (vI x3)], [], (I, S)) r :=
  s_iincp [some (vR (some (22, 0, a0))), some (vI x1), some (vI x2), some (vI (x3 + 1))] rfl rfl ho1 rfl <|
  s_goto 2 rfl rfl k
theorem b_X12_isProper_44 {d : Nat} {I : Nat → Nat → Int} {S : PS} {a0 : Nat} {x1 x2 x3 : Int} : Ev d mX12_isProper (44, [some (vR (some (22, 0, a0))), some (vI x1), some (vI x2), some (vI x3)], [], (I, S)) (.inl (some (vI 1)), (I, S)) :=
  s_iconst rfl rfl <|
  s_ret rfl rfl
theorem b_X12_isJoin_0 {d : Nat} {r : PO × PM} {I : Nat → Nat → Int} {S : PS} {a0 : Nat} {x1 x2 x3 : Int} (k : Ev d mX12_isJoin (3, [some (vR (some (22, 0, a0))), some (vI x1), some (vI x2), some (vI x3), some (vI 0), none, none], [], (I, S)) r) : Ev d mX12_isJoin (0, [some (vR (some (22, 0, a0))), some (vI x1), some (vI x2), some (vI x3), none, none, none], [], (I, S)) r :=
  s_iconst rfl rfl <|
  s_istore [some (vR (some (22, 0, a0))), some (vI x1), some (vI x2), some (vI x3), some (vI 0), none, none] rfl rfl <|
  k
theorem b_X12_isJoin_3 {d : Nat} {r : PO × PM} {I : Nat → Nat → Int} {S : PS} {a0 p1 q1 : Nat} {x1 x2 x3 x4 : Int} (hr1 : S.1 a0 19 = some (0, q1, p1)) (ho2 : -2147483648 ≤ 20 * x1 ∧ 20 * x1 ≤ 2147483647) (ho3 : -2147483648 ≤ (20 * x1) + 10 ∧ (20 * x1) + 10 ≤ 2147483647) (hi4 : 0 ≤ (20 * x1) + 10 ∧ (20 * x1) + 10 < (q1 : Nat)) (kt : I p1 ((20 * x1) + 10).toNat ≤ x4 → Ev d mX12_isJoin (92, [some (vR (some (22, 0, a0))), some (vI x1), some (vI x2), some (vI x3), some (vI x4), none, none], [], (I, S)) r) (kf : x4 < I p1 ((20 * x1) + 10).toNat → Ev d mX12_isJoin (20, [some (vR (some (22, 0, a0))), some (vI x1), some (vI x2), some (vI x3), some (vI x4), none, none], [], (I, S)) r) : Ev d mX12_isJoin (3, [some (vR (some (22, 0, a0))), some (vI x1), some (vI x2), some (vI x3), some (vI x4), none, none], [], (I, S)) r :=
  s_iload rfl rfl rfl <|
  s_aload_n rfl rfl rfl <|
  s_getR rfl rfl rfl hr1 <|
  s_bipush rfl rfl <|
  s_iload_n rfl rfl rfl <|
  s_imulp rfl ho2 <|
  s_bipush rfl rfl <|
  s_iaddp rfl ho3 <|
  s_iald rfl rfl hi4 <|
  s_icmp_ge 92 rfl rfl kt kf
theorem b_X12_isJoin_20 {d : Nat} {r : PO × PM} {I : Nat → Nat → Int} {S : PS} {a0 p1 q1 : Nat} {x1 x2 x3 x4 : Int} (hr1 : S.1 a0 19 = some (0, q1, p1)) (ho2 : -2147483648 ≤ 20 * x1 ∧ 20 * x1 ≤ 2147483647) (ho3 : -2147483648 ≤ (20 * x1) + 11 ∧ (20 * x1) + 11 ≤ 2147483647) (ho4 : -2147483648 ≤ 2 * x4 ∧ 2 * x4 ≤ 2147483647) (ho5 : -2147483648 ≤ ((20 * x1) + 11) + (2 * x4) ∧ ((20 * x1) + 11) + (2 * x4) ≤ 2147483647) (hi6 : 0 ≤ ((20 * x1) + 11) + (2 * x4) ∧ ((20 * x1) + 11) + (2 * x4) < (q1 : Nat)) (ho7 : -2147483648 ≤ 20 * x1 ∧ 20 * x1 ≤ 2147483647) (ho8 : -2147483648 ≤ (20 * x1) + 11 ∧ (20 * x1) + 11 ≤ 2147483647) (ho9 : -2147483648 ≤ 2 * x4 ∧ 2 * x4 ≤ 2147483647) (ho10 : -2147483648 ≤ ((20 * x1) + 11) + (2 * x4) ∧ ((20 * x1) + 11) + (2 * x4) ≤ 2147483647) (ho11 : -2147483648 ≤ (((20 * x1) + 11) + (2 * x4)) + 1 ∧ (((20 * x1) + 11) + (2 * x4)) + 1 ≤ 2147483647) (hi12 : 0 ≤ (((20 * x1) + 11) + (2 * x4)) + 1 ∧ (((20 * x1) + 11) + (2 * x4)) + 1 < (q1 : Nat)) (kt : I p1 (((20 * x1) + 11) + (2 * x4)).toNat ≠ x2 → Ev d mX12_isJoin (72, [some (vR (some (22, 0, a0))), some (vI x1), some (vI x2), some (vI x3), some (vI x4), some (vI (I p1 (((20 * x1) + 11) + (2 * x4)).toNat)), some (vI (I p1 ((((20 * x1) + 11) + (2 * x4)) + 1).toNat))], [], (I, S)) r) (kf : I p1 (((20 * x1) + 11) + (2 * x4)).toNat = x2 → Ev d mX12_isJoin (66, [some (vR (some (22, 0, a0))), some (vI x1), some (vI x2), some (vI x3), some (vI x4), some (vI (I p1 (((20 * x1) + 11) + (2 * x4)).toNat)), some (vI (I p1 ((((20 * x1) + 11) + (2 * x4)) + 1).toNat))], [], (I, S)) r) : Ev d mX12_isJoin (20, [some (vR (some (22, 0, a0))), some (vI x1), some (vI x2), some (vI x3), some (vI x4), none, none], [], (I, S)) r :=
  s_aload_n rfl rfl rfl <|
  s_getR rfl rfl rfl hr1 <|
  s_bipush rfl rfl <|
  s_iload_n rfl rfl rfl <|
  s_imulp rfl ho2 <|
  s_bipush rfl rfl <|
  s_iaddp rfl ho3 <|
  s_iconst rfl rfl <|
  s_iload rfl rfl rfl <|
  s_imulp rfl ho4 <|
  s_iaddp rfl ho5 <|
  s_iald rfl rfl hi6 <|
  s_istore [some (vR (some (22, 0, a0))), some (vI x1), some (vI x2), some (vI x3), some (vI x4), some (vI (I p1 (((20 * x1) + 11) + (2 * x4)).toNat)), none] rfl rfl <|
  s_aload_n rfl rfl rfl <|
  s_getR rfl rfl rfl hr1 <|
  s_bipush rfl rfl <|
  s_iload_n rfl rfl rfl <|
  s_imulp rfl ho7 <|
  s_bipush rfl rfl <|
  s_iaddp rfl ho8 <|
  s_iconst rfl rfl <|
  s_iload rfl rfl rfl <|
  s_imulp rfl ho9 <|
  s_iaddp rfl ho10 <|
  s_iconst rfl rfl <|
  s_iaddp rfl ho11 <|
  s_iald rfl rfl hi12 <|
  s_istore [some (vR (some (22, 0, a0))), some (vI x1), some (vI x2), some (vI x3), some (vI x4), some (vI (I p1 (((20 * x1) + 11) + (2 * x4)).toNat)), some (vI (I p1 ((((20 * x1) + 11) + (2 * x4)) + 1).toNat))] rfl rfl <|
  s_iload rfl rfl rfl <|
  s_iload_n rfl rfl rfl <|
  s_icmp_ne 72 rfl rfl kt kf
theorem b_X12_isJoin_66 {d : Nat} {r : PO × PM} {I : Nat → Nat → Int} {S : PS} {a0 : Nat} {x1 x2 x3 x4 x5 x6 : Int} (kt : x6 = x3 → Ev d mX12_isJoin (84, [some (vR (some (22, 0, a0))), some (vI x1), some (vI x2), some (vI x3), some (vI x4), some (vI x5), some (vI x6)], [], (I, S)) r) (kf : x6 ≠ x3 → Ev d mX12_isJoin (72, [some (vR (some (22, 0, a0))), some (vI x1), some (vI x2), some (vI x3), some (vI x4), some (vI x5), some (vI x6)], [], (I, S)) r) : Ev d mX12_isJoin (66, [some (vR (some (22, 0, a0))), some (vI x1), some (vI x2), some (vI x3), some (vI x4), some (vI x5), some (vI x6)], [], (I, S)) r :=
  s_iload rfl rfl rfl <|
  s_iload_n rfl rfl rfl <|
  s_icmp_eq 84 rfl rfl kt kf
theorem b_X12_isJoin_72 {d : Nat} {r : PO × PM} {I : Nat → Nat → Int} {S : PS} {a0 : Nat} {x1 x2 x3 x4 x5 x6 : Int} (kt : x5 ≠ x3 → Ev d mX12_isJoin (86, [some (vR (some (22, 0, a0))), some (vI x1), some (vI x2), some (vI x3), some (vI x4), some (vI x5), some (vI x6)], [], (I, S)) r) (kf : x5 = x3 → Ev d mX12_isJoin (78, [some (vR (some (22, 0, a0))), some (vI x1), some (vI x2), some (vI x3), some (vI x4), some (vI x5), some (vI x6)], [], (I, S)) r) : Ev d mX12_isJoin (72, [some (vR (some (22, 0, a0))), some (vI x1), some (vI x2), some (vI x3), some (vI x4), some (vI x5), some (vI x6)], [], (I, S)) r :=
  s_iload rfl rfl rfl <|
  s_iload_n rfl rfl rfl <|
  s_icmp_ne 86 rfl rfl kt kf
theorem b_X12_isJoin_78 {d : Nat} {r : PO × PM} {I : Nat → Nat → Int} {S : PS} {a0 : Nat} {x1 x2 x3 x4 x5 x6 : Int} (kt : x6 ≠ x2 → Ev d mX12_isJoin (86, [some (vR (some (22, 0, a0))), some (vI x1), some (vI x2), some (vI x3), some (vI x4), some (vI x5), some (vI x6)], [], (I, S)) r) (kf : x6 = x2 → Ev d mX12_isJoin (84, [some (vR (some (22, 0, a0))), some (vI x1), some (vI x2), some (vI x3), some (vI x4), some (vI x5), some (vI x6)], [], (I, S)) r) : Ev d mX12_isJoin (78, [some (vR (some (22, 0, a0))), some (vI x1), some (vI x2), some (vI x3), some (vI x4), some (vI x5), some (vI x6)], [], (I, S)) r :=
  s_iload rfl rfl rfl <|
  s_iload_n rfl rfl rfl <|
  s_icmp_ne 86 rfl rfl kt kf
theorem b_X12_isJoin_84 {d : Nat} {I : Nat → Nat → Int} {S : PS} {a0 : Nat} {x1 x2 x3 x4 x5 x6 : Int} : Ev d mX12_isJoin (84, [some (vR (some (22, 0, a0))), some (vI x1), some (vI x2), some (vI x3), some (vI x4), some (vI x5), some (vI x6)], [], (I, S)) (.inl (some (vI 1)), (I, S)) :=
  s_iconst rfl rfl <|
  s_ret rfl rfl
theorem b_X12_isJoin_86 {d : Nat} {r : PO × PM} {I : Nat → Nat → Int} {S : PS} {a0 : Nat} {x1 x2 x3 x4 x5 x6 : Int} (ho1 : -2147483648 ≤ x4 + 1 ∧ x4 + 1 ≤ 2147483647) (k : Ev d mX12_isJoin (3, [some (vR (some (22, 0, a0))), some (vI x1), some (vI x2), some (vI x3), some (vI (x4 + 1)), none, none], [], (I, S)) r) : Ev d mX12_isJoin (86, [some (vR (some (22, 0, a0))), some (vI x1), some (vI x2), some (vI x3), some (vI x4), some (vI x5), some (vI x6)], [], (I, S)) r :=
  s_iincp [some (vR (some (22, 0, a0))), some (vI x1), some (vI x2), some (vI x3), some (vI (x4 + 1)), some (vI x5), some (vI x6)] rfl rfl ho1 rfl <|
  s_goto 3 rfl rfl (ev_forget [false, false, false, false, false, true, true] rfl k)
theorem b_X12_isJoin_92 {d : Nat} {I : Nat → Nat → Int} {S : PS} {a0 : Nat} {x1 x2 x3 x4 : Int} : Ev d mX12_isJoin (92, [some (vR (some (22, 0, a0))), some (vI x1), some (vI x2), some (vI x3), some (vI x4), none, none], [], (I, S)) (.inl (some (vI 0)), (I, S)) :=
  s_iconst rfl rfl <|
  s_ret rfl rfl
theorem b_X12_goesWith_0 {d : Nat} {r : PO × PM} {I : Nat → Nat → Int} {S : PS} {a0 : Nat} {x1 x2 x3 : Int} (k : Ev d mX12_goesWith (3, [some (vR (some (22, 0, a0))), some (vI x1), some (vI x2), some (vI x3), some (vI 0), none], [], (I, S)) r) : Ev d mX12_goesWith (0, [some (vR (some (22, 0, a0))), some (vI x1), some (vI x2), some (vI x3), none, none], [], (I, S)) r :=
  s_iconst rfl rfl <|
  s_istore [some (vR (some (22, 0, a0))), some (vI x1), some (vI x2), some (vI x3), some (vI 0), none] rfl rfl <|
  k
theorem b_X12_goesWith_3 {d : Nat} {r : PO × PM} {I : Nat → Nat → Int} {S : PS} {a0 : Nat} {x1 x2 x3 x4 : Int} (kt : x2 ≤ x4 → Ev d mX12_goesWith (87, [some (vR (some (22, 0, a0))), some (vI x1), some (vI x2), some (vI x3), some (vI x4), none], [], (I, S)) r) (kf : x4 < x2 → Ev d mX12_goesWith (9, [some (vR (some (22, 0, a0))), some (vI x1), some (vI x2), some (vI x3), some (vI x4), none], [], (I, S)) r) : Ev d mX12_goesWith (3, [some (vR (some (22, 0, a0))), some (vI x1), some (vI x2), some (vI x3), some (vI x4), none], [], (I, S)) r :=
  s_iload rfl rfl rfl <|
  s_iload_n rfl rfl rfl <|
  s_icmp_ge 87 rfl rfl kt kf
theorem b_X12_goesWith_9 {d : Nat} {r : PO × PM} {I : Nat → Nat → Int} {S : PS} {a0 p1 q1 : Nat} {x1 x2 x3 x4 : Int} (hr1 : S.1 a0 25 = some (0, q1, p1)) (ho2 : -2147483648 ≤ 15 * x1 ∧ 15 * x1 ≤ 2147483647) (ho3 : -2147483648 ≤ (15 * x1) + x2 ∧ (15 * x1) + x2 ≤ 2147483647) (hi4 : 0 ≤ (15 * x1) + x2 ∧ (15 * x1) + x2 < (q1 : Nat)) (kt : p_and (p_shr (I p1 ((15 * x1) + x2).toNat) x4) 1 ≠ 0 → Ev d mX12_goesWith (31, [some (vR (some (22, 0, a0))), some (vI x1), some (vI x2), some (vI x3), some (vI x4), none], [], (I, S)) r) (kf : p_and (p_shr (I p1 ((15 * x1) + x2).toNat) x4) 1 = 0 → Ev d mX12_goesWith (28, [some (vR (some (22, 0, a0))), some (vI x1), some (vI x2), some (vI x3), some (vI x4), none], [], (I, S)) r) : Ev d mX12_goesWith (9, [some (vR (some (22, 0, a0))), some (vI x1), some (vI x2), some (vI x3), some (vI x4), none], [], (I, S)) r :=
  s_aload_n rfl rfl rfl <|
  s_getR rfl rfl rfl hr1 <|
  s_bipush rfl rfl <|
  s_iload_n rfl rfl rfl <|
  s_imulp rfl ho2 <|
  s_iload_n rfl rfl rfl <|
  s_iaddp rfl ho3 <|
  s_iald rfl rfl hi4 <|
  s_iload rfl rfl rfl <|
  s_ishr rfl <|
  s_iconst rfl rfl <|
  s_iand rfl <|
  s_if_ne 31 rfl rfl kt kf
theorem b_X12_goesWith_28 {d : Nat} {r : PO × PM} {I : Nat → Nat → Int} {S : PS} {a0 : Nat} {x1 x2 x3 x4 : Int} (k : Ev d mX12_goesWith (81, [some (vR (some (22, 0, a0))), some (vI x1), some (vI x2), some (vI x3), some (vI x4), none], [], (I, S)) r) : Ev d mX12_goesWith (28, [some (vR (some (22, 0, a0))), some (vI x1), some (vI x2), some (vI x3), some (vI x4), none], [], (I, S)) r :=
  s_goto 81 rfl rfl k
theorem b_X12_goesWith_31 {d : Nat} {r : PO × PM} {I : Nat → Nat → Int} {S : PS} {a0 p1 q1 : Nat} {x1 x2 x3 x4 : Int} (hr1 : S.1 a0 33 = some (0, q1, p1)) (hi2 : 0 ≤ x4 ∧ x4 < (q1 : Nat)) (hi3 : 0 ≤ x2 ∧ x2 < (q1 : Nat)) (kt : I p1 x4.toNat ≠ I p1 x2.toNat → Ev d mX12_goesWith (51, [some (vR (some (22, 0, a0))), some (vI x1), some (vI x2), some (vI x3), some (vI x4), none], [], (I, S)) r) (kf : I p1 x4.toNat = I p1 x2.toNat → Ev d mX12_goesWith (47, [some (vR (some (22, 0, a0))), some (vI x1), some (vI x2), some (vI x3), some (vI x4), none], [], (I, S)) r) : Ev d mX12_goesWith (31, [some (vR (some (22, 0, a0))), some (vI x1), some (vI x2), some (vI x3), some (vI x4), none], [], (I, S)) r :=
  s_aload_n rfl rfl rfl <|
  s_getR rfl rfl rfl hr1 <|
  s_iload rfl rfl rfl <|
  s_iald rfl rfl hi2 <|
  s_aload_n rfl rfl rfl <|
  s_getR rfl rfl rfl hr1 <|
  s_iload_n rfl rfl rfl <|
  s_iald rfl rfl hi3 <|
  s_icmp_ne 51 rfl rfl kt kf
theorem b_X12_goesWith_47 {d : Nat} {r : PO × PM} {I : Nat → Nat → Int} {S : PS} {a0 : Nat} {x1 x2 x3 x4 : Int} (k : Ev d mX12_goesWith (52, [some (vR (some (22, 0, a0))), some (vI x1), some (vI x2), some (vI x3), some (vI x4), none], [vI 1], (I, S)) r) : Ev d mX12_goesWith (47, [some (vR (some (22, 0, a0))), some (vI x1), some (vI x2), some (vI x3), some (vI x4), none], [], (I, S)) r :=
  s_iconst rfl rfl <|
  s_goto 52 rfl rfl k
theorem b_X12_goesWith_51 {d : Nat} {r : PO × PM} {I : Nat → Nat → Int} {S : PS} {a0 : Nat} {x1 x2 x3 x4 : Int} (k : Ev d mX12_goesWith (52, [some (vR (some (22, 0, a0))), some (vI x1), some (vI x2), some (vI x3), some (vI x4), none], [vI 0], (I, S)) r) : Ev d mX12_goesWith (51, [some (vR (some (22, 0, a0))), some (vI x1), some (vI x2), some (vI x3), some (vI x4), none], [], (I, S)) r :=
  s_iconst rfl rfl <|
  k
theorem b_X12_goesWith_52 {d : Nat} {r : PO × PM} {I : Nat → Nat → Int} {S : PS} {a0 : Nat} {x1 x2 x3 x4 xs0 : Int} (kt : x3 = 0 → Ev d mX12_goesWith (75, [some (vR (some (22, 0, a0))), some (vI x1), some (vI x2), some (vI x3), some (vI x4), some (vI xs0)], [vI xs0], (I, S)) r) (kf : x3 ≠ 0 → Ev d mX12_goesWith (60, [some (vR (some (22, 0, a0))), some (vI x1), some (vI x2), some (vI x3), some (vI x4), some (vI xs0)], [vI xs0], (I, S)) r) : Ev d mX12_goesWith (52, [some (vR (some (22, 0, a0))), some (vI x1), some (vI x2), some (vI x3), some (vI x4), none], [vI xs0], (I, S)) r :=
  s_istore [some (vR (some (22, 0, a0))), some (vI x1), some (vI x2), some (vI x3), some (vI x4), some (vI xs0)] rfl rfl <|
  s_iload rfl rfl rfl <|
  s_iload_n rfl rfl rfl <|
  s_if_eq 75 rfl rfl kt kf
theorem b_X12_goesWith_60 {d : Nat} {r : PO × PM} {I : Nat → Nat → Int} {S : PS} {a0 : Nat} {x1 x2 x3 x4 x5 xs0 z : Int} {I1 : Nat → Nat → Int} {S1 : PS} (c : Ca d mX12_isJoin [vR (some (22, 0, a0)), vI x1, vI x4, vI x2] (I, S) (.inl (some (vI z))) (I1, S1)) (k : Ev (d + 1) mX12_goesWith (68, [some (vR (some (22, 0, a0))), some (vI x1), some (vI x2), some (vI x3), some (vI x4), some (vI x5)], [vI z, vI xs0], (I1, S1)) r) : Ev (d + 1) mX12_goesWith (60, [some (vR (some (22, 0, a0))), some (vI x1), some (vI x2), some (vI x3), some (vI x4), some (vI x5)], [vI xs0], (I, S)) r :=
  s_aload_n rfl rfl rfl <|
  s_iload_n rfl rfl rfl <|
  s_iload rfl rfl rfl <|
  s_iload_n rfl rfl rfl <|
  s_cvI rfl rfl rfl rfl rfl c k
theorem b_X12_goesWith_68 {d : Nat} {r : PO × PM} {I : Nat → Nat → Int} {S : PS} {a0 : Nat} {x1 x2 x3 x4 x5 xs0 xs1 : Int} (kt : xs1 = 0 → Ev d mX12_goesWith (75, [some (vR (some (22, 0, a0))), some (vI x1), some (vI x2), some (vI x3), some (vI x4), some (vI x5)], [vI xs0], (I, S)) r) (kf : xs1 ≠ 0 → Ev d mX12_goesWith (71, [some (vR (some (22, 0, a0))), some (vI x1), some (vI x2), some (vI x3), some (vI x4), some (vI x5)], [vI xs0], (I, S)) r) : Ev d mX12_goesWith (68, [some (vR (some (22, 0, a0))), some (vI x1), some (vI x2), some (vI x3), some (vI x4), some (vI x5)], [vI xs1, vI xs0], (I, S)) r :=
  s_if_eq 75 rfl rfl kt kf
theorem b_X12_goesWith_71 {d : Nat} {r : PO × PM} {I : Nat → Nat → Int} {S : PS} {a0 : Nat} {x1 x2 x3 x4 x5 xs0 : Int} (k : Ev d mX12_goesWith (76, [some (vR (some (22, 0, a0))), some (vI x1), some (vI x2), some (vI x3), some (vI x4), some (vI x5)], [vI 1, vI xs0], (I, S)) r) : Ev d mX12_goesWith (71, [some (vR (some (22, 0, a0))), some (vI x1), some (vI x2), some (vI x3), some (vI x4), some (vI x5)], [vI xs0], (I, S)) r :=
  s_iconst rfl rfl <|
  s_goto 76 rfl rfl k
theorem b_X12_goesWith_75 {d : Nat} {r : PO × PM} {I : Nat → Nat → Int} {S : PS} {a0 : Nat} {x1 x2 x3 x4 x5 xs0 : Int} (k : Ev d mX12_goesWith (76, [some (vR (some (22, 0, a0))), some (vI x1), some (vI x2), some (vI x3), some (vI x4), some (vI x5)], [vI 0, vI xs0], (I, S)) r) : Ev d mX12_goesWith (75, [some (vR (some (22, 0, a0))), some (vI x1), some (vI x2), some (vI x3), some (vI x4), some (vI x5)], [vI xs0], (I, S)) r :=
  s_iconst rfl rfl <|
  k
theorem b_X12_goesWith_76 {d : Nat} {r : PO × PM} {I : Nat → Nat → Int} {S : PS} {a0 : Nat} {x1 x2 x3 x4 x5 xs0 xs1 : Int} (kt : xs0 = xs1 → Ev d mX12_goesWith (81, [some (vR (some (22, 0, a0))), some (vI x1), some (vI x2), some (vI x3), some (vI x4), none], [], (I, S)) r) (kf : xs0 ≠ xs1 → Ev d mX12_goesWith (79, [some (vR (some (22, 0, a0))), some (vI x1), some (vI x2), some (vI x3), some (vI x4), some (vI x5)], [], (I, S)) r) : Ev d mX12_goesWith (76, [some (vR (some (22, 0, a0))), some (vI x1), some (vI x2), some (vI x3), some (vI x4), some (vI x5)], [vI xs1, vI xs0], (I, S)) r :=
  s_icmp_eq 81 rfl rfl (fun c => ev_forget [false, false, false, false, false, true] rfl <| kt c) kf
theorem b_X12_goesWith_79 {d : Nat} {I : Nat → Nat → Int} {S : PS} {a0 : Nat} {x1 x2 x3 x4 x5 : Int} : Ev d mX12_goesWith (79, [some (vR (some (22, 0, a0))), some (vI x1), some (vI x2), some (vI x3), some (vI x4), some (vI x5)], [], (I, S)) (.inl (some (vI 0)), (I, S)) :=
  s_iconst rfl rfl <|
  s_ret rfl rfl
theorem b_X12_goesWith_81 {d : Nat} {r : PO × PM} {I : Nat → Nat → Int} {S : PS} {a0 : Nat} {x1 x2 x3 x4 : Int} (ho1 : -2147483648 ≤ x4 + 1 ∧ x4 + 1 ≤ 2147483647) (k : Ev d mX12_goesWith (3, [some (vR (some (22, 0, a0))), some (vI x1), some (vI x2), some (vI x3), some (vI (x4 + 1)), none], [], (I, S)) r) : Ev d mX12_goesWith (81, [some (vR (some (22, 0, a0))), some (vI x1), some (vI x2), some (vI x3), some (vI x4), none], [], (I, S)) r :=
  s_iincp [some (vR (some (22, 0, a0))), some (vI x1), some (vI x2), some (vI x3), some (vI (x4 + 1)), none] rfl rfl ho1 rfl <|
  s_goto 3 rfl rfl k
theorem b_X12_goesWith_87 {d : Nat} {I : Nat → Nat → Int} {S : PS} {a0 : Nat} {x1 x2 x3 x4 : Int} : Ev d mX12_goesWith (87, [some (vR (some (22, 0, a0))), some (vI x1), some (vI x2), some (vI x3), some (vI x4), none], [], (I, S)) (.inl (some (vI 1)), (I, S)) :=
  s_iconst rfl rfl <|
  s_ret rfl rfl
theorem b_X12_doesExtend_0 {d : Nat} {r : PO × PM} {I : Nat → Nat → Int} {S : PS} {a0 : Nat} {x1 x2 x3 z : Int} {I1 : Nat → Nat → Int} {S1 : PS} (c : Ca d mX12_ring [vR (some (22, 0, a0)), vI x1] (I, S) (.inl (some (vI z))) (I1, S1)) (k : Ev (d + 1) mX12_doesExtend (5, [some (vR (some (22, 0, a0))), some (vI x1), some (vI x2), some (vI x3), none, none, none], [vI z], (I1, S1)) r) : Ev (d + 1) mX12_doesExtend (0, [some (vR (some (22, 0, a0))), some (vI x1), some (vI x2), some (vI x3), none, none, none], [], (I, S)) r :=
  s_aload_n rfl rfl rfl <|
  s_iload_n rfl rfl rfl <|
  s_cvI rfl rfl rfl rfl rfl c k
theorem b_X12_doesExtend_5 {d : Nat} {r : PO × PM} {I : Nat → Nat → Int} {S : PS} {a0 : Nat} {x1 x2 x3 xs0 z : Int} {I1 : Nat → Nat → Int} {S1 : PS} (c : Ca d mX12_vertices [vR (some (22, 0, a0)), vI x1] (I, S) (.inl (some (vI z))) (I1, S1)) (k : Ev (d + 1) mX12_doesExtend (12, [some (vR (some (22, 0, a0))), some (vI x1), some (vI x2), some (vI x3), some (vI xs0), none, none], [vI z], (I1, S1)) r) : Ev (d + 1) mX12_doesExtend (5, [some (vR (some (22, 0, a0))), some (vI x1), some (vI x2), some (vI x3), none, none, none], [vI xs0], (I, S)) r :=
  s_istore [some (vR (some (22, 0, a0))), some (vI x1), some (vI x2), some (vI x3), some (vI xs0), none, none] rfl rfl <|
  s_aload_n rfl rfl rfl <|
  s_iload_n rfl rfl rfl <|
  s_cvI rfl rfl rfl rfl rfl c k
theorem b_X12_doesExtend_12 {d : Nat} {r : PO × PM} {I : Nat → Nat → Int} {S : PS} {a0 : Nat} {x1 x2 x3 x4 xs0 : Int} (k : Ev d mX12_doesExtend (17, [some (vR (some (22, 0, a0))), some (vI x1), some (vI x2), some (vI x3), some (vI x4), some (vI xs0), some (vI 0)], [], (I, S)) r) : Ev d mX12_doesExtend (12, [some (vR (some (22, 0, a0))), some (vI x1), some (vI x2), some (vI x3), some (vI x4), none, none], [vI xs0], (I, S)) r :=
  s_istore [some (vR (some (22, 0, a0))), some (vI x1), some (vI x2), some (vI x3), some (vI x4), some (vI xs0), none] rfl rfl <|
  s_iconst rfl rfl <|
  s_istore [some (vR (some (22, 0, a0))), some (vI x1), some (vI x2), some (vI x3), some (vI x4), some (vI xs0), some (vI 0)] rfl rfl <|
  k
theorem b_X12_doesExtend_17 {d : Nat} {r : PO × PM} {I : Nat → Nat → Int} {S : PS} {a0 : Nat} {x1 x2 x3 x4 x5 x6 : Int} (kt : x4 ≤ x6 → Ev d mX12_doesExtend (45, [some (vR (some (22, 0, a0))), some (vI x1), some (vI x2), some (vI x3), some (vI x4), some (vI x5), some (vI x6)], [], (I, S)) r) (kf : x6 < x4 → Ev d mX12_doesExtend (24, [some (vR (some (22, 0, a0))), some (vI x1), some (vI x2), some (vI x3), some (vI x4), some (vI x5), some (vI x6)], [], (I, S)) r) : Ev d mX12_doesExtend (17, [some (vR (some (22, 0, a0))), some (vI x1), some (vI x2), some (vI x3), some (vI x4), some (vI x5), some (vI x6)], [], (I, S)) r :=
  s_iload rfl rfl rfl <|
  s_iload rfl rfl rfl <|
  s_icmp_ge 45 rfl rfl kt kf
theorem b_X12_doesExtend_24 {d : Nat} {r : PO × PM} {I : Nat → Nat → Int} {S : PS} {a0 p1 q1 : Nat} {x1 x2 x3 x4 x5 x6 z : Int} {I1 : Nat → Nat → Int} {S1 : PS} (hr1 : S.1 a0 33 = some (0, q1, p1)) (c : Ca d mX12_colourAt [vR (some (22, 0, a0)), vI x1, vI x2, vI x6] (I, S) (.inl (some (vI z))) (I1, S1)) (k : Ev (d + 1) mX12_doesExtend (38, [some (vR (some (22, 0, a0))), some (vI x1), some (vI x2), some (vI x3), some (vI x4), some (vI x5), some (vI x6)], [vI z, vI x6, vR (some (0, q1, p1))], (I1, S1)) r) : Ev (d + 1) mX12_doesExtend (24, [some (vR (some (22, 0, a0))), some (vI x1), some (vI x2), some (vI x3), some (vI x4), some (vI x5), some (vI x6)], [], (I, S)) r :=
  s_aload_n rfl rfl rfl <|
  s_getR rfl rfl rfl hr1 <|
  s_iload rfl rfl rfl <|
  s_aload_n rfl rfl rfl <|
  s_iload_n rfl rfl rfl <|
  s_iload_n rfl rfl rfl <|
  s_iload rfl rfl rfl <|
  s_cvI rfl rfl rfl rfl rfl c k
theorem b_X12_doesExtend_38 {d : Nat} {r : PO × PM} {I : Nat → Nat → Int} {S : PS} {a0 ns0 as0 : Nat} {x1 x2 x3 x4 x5 x6 xs1 xs2 : Int} (hi1 : 0 ≤ xs1 ∧ xs1 < (ns0 : Nat)) (ho2 : -2147483648 ≤ x6 + 1 ∧ x6 + 1 ≤ 2147483647) (k : Ev d mX12_doesExtend (17, [some (vR (some (22, 0, a0))), some (vI x1), some (vI x2), some (vI x3), some (vI x4), some (vI x5), some (vI (x6 + 1))], [], ((up2 I as0 (xs1.toNat) xs2), S)) r) : Ev d mX12_doesExtend (38, [some (vR (some (22, 0, a0))), some (vI x1), some (vI x2), some (vI x3), some (vI x4), some (vI x5), some (vI x6)], [vI xs2, vI xs1, vR (some (0, ns0, as0))], (I, S)) r :=
  s_iast rfl hi1 <|
  s_iincp [some (vR (some (22, 0, a0))), some (vI x1), some (vI x2), some (vI x3), some (vI x4), some (vI x5), some (vI (x6 + 1))] rfl rfl ho2 rfl <|
  s_goto 17 rfl rfl k
theorem b_X12_doesExtend_45 {d : Nat} {r : PO × PM} {I : Nat → Nat → Int} {S : PS} {a0 p1 q1 : Nat} {x1 x2 x3 x4 x5 x6 : Int} (hr1 : S.1 a0 33 = some (0, q1, p1)) (hi2 : 0 ≤ x4 ∧ x4 < (q1 : Nat)) (k : Ev d mX12_doesExtend (57, [some (vR (some (22, 0, a0))), some (vI x1), some (vI x2), some (vI x3), some (vI x4), some (vI x5), some (vI x4)], [], ((up2 I p1 (x4.toNat) (-1)), S)) r) : Ev d mX12_doesExtend (45, [some (vR (some (22, 0, a0))), some (vI x1), some (vI x2), some (vI x3), some (vI x4), some (vI x5), some (vI x6)], [], (I, S)) r :=
  s_iload rfl rfl rfl <|
  s_istore [some (vR (some (22, 0, a0))), some (vI x1), some (vI x2), some (vI x3), some (vI x4), some (vI x5), some (vI x4)] rfl rfl <|
  s_aload_n rfl rfl rfl <|
  s_getR rfl rfl rfl hr1 <|
  s_iload rfl rfl rfl <|
  s_iconst rfl rfl <|
  s_iast rfl hi2 <|
  k
theorem b_X12_doesExtend_57 {d : Nat} {r : PO × PM} {I : Nat → Nat → Int} {S : PS} {a0 : Nat} {x1 x2 x3 x4 x5 x6 : Int} (kt : x6 < x4 → Ev d mX12_doesExtend (134, [some (vR (some (22, 0, a0))), some (vI x1), some (vI x2), some (vI x3), some (vI x4), some (vI x5), some (vI x6)], [], (I, S)) r) (kf : x4 ≤ x6 → Ev d mX12_doesExtend (64, [some (vR (some (22, 0, a0))), some (vI x1), some (vI x2), some (vI x3), some (vI x4), some (vI x5), some (vI x6)], [], (I, S)) r) : Ev d mX12_doesExtend (57, [some (vR (some (22, 0, a0))), some (vI x1), some (vI x2), some (vI x3), some (vI x4), some (vI x5), some (vI x6)], [], (I, S)) r :=
  s_iload rfl rfl rfl <|
  s_iload rfl rfl rfl <|
  s_icmp_lt 134 rfl rfl kt kf
theorem b_X12_doesExtend_64 {d : Nat} {r : PO × PM} {I : Nat → Nat → Int} {S : PS} {a0 : Nat} {x1 x2 x3 x4 x5 x6 : Int} (kt : x5 ≤ x6 → Ev d mX12_doesExtend (134, [some (vR (some (22, 0, a0))), some (vI x1), some (vI x2), some (vI x3), some (vI x4), some (vI x5), some (vI x6)], [], (I, S)) r) (kf : x6 < x5 → Ev d mX12_doesExtend (71, [some (vR (some (22, 0, a0))), some (vI x1), some (vI x2), some (vI x3), some (vI x4), some (vI x5), some (vI x6)], [], (I, S)) r) : Ev d mX12_doesExtend (64, [some (vR (some (22, 0, a0))), some (vI x1), some (vI x2), some (vI x3), some (vI x4), some (vI x5), some (vI x6)], [], (I, S)) r :=
  s_iload rfl rfl rfl <|
  s_iload rfl rfl rfl <|
  s_icmp_ge 134 rfl rfl kt kf
theorem b_X12_doesExtend_71 {d : Nat} {r : PO × PM} {I : Nat → Nat → Int} {S : PS} {a0 p1 q1 : Nat} {x1 x2 x3 x4 x5 x6 : Int} (hr1 : S.1 a0 33 = some (0, q1, p1)) (hi2 : 0 ≤ x6 ∧ x6 < (q1 : Nat)) (ho3 : -2147483648 ≤ I p1 x6.toNat + 1 ∧ I p1 x6.toNat + 1 ≤ 2147483647) (hi4 : 0 ≤ x6 ∧ x6 < (q1 : Nat)) (hi5 : 0 ≤ x6 ∧ x6 < (q1 : Nat)) (kt : (up2 I p1 (x6.toNat) (I p1 x6.toNat + 1)) p1 x6.toNat ≤ 3 → Ev d mX12_doesExtend (99, [some (vR (some (22, 0, a0))), some (vI x1), some (vI x2), some (vI x3), some (vI x4), some (vI x5), some (vI x6)], [], ((up2 I p1 (x6.toNat) (I p1 x6.toNat + 1)), S)) r) (kf : 3 < (up2 I p1 (x6.toNat) (I p1 x6.toNat + 1)) p1 x6.toNat → Ev d mX12_doesExtend (93, [some (vR (some (22, 0, a0))), some (vI x1), some (vI x2), some (vI x3), some (vI x4), some (vI x5), some (vI x6)], [], ((up2 I p1 (x6.toNat) (I p1 x6.toNat + 1)), S)) r) : Ev d mX12_doesExtend (71, [some (vR (some (22, 0, a0))), some (vI x1), some (vI x2), some (vI x3), some (vI x4), some (vI x5), some (vI x6)], [], (I, S)) r :=
  s_aload_n rfl rfl rfl <|
  s_getR rfl rfl rfl hr1 <|
  s_iload rfl rfl rfl <|
  s_dup2 rfl rfl <|
  s_iald rfl rfl hi2 <|
  s_iconst rfl rfl <|
  s_iaddp rfl ho3 <|
  s_iast rfl hi4 <|
  s_aload_n rfl rfl rfl <|
  s_getR rfl rfl rfl hr1 <|
  s_iload rfl rfl rfl <|
  s_iald rfl rfl hi5 <|
  s_iconst rfl rfl <|
  s_icmp_le 99 rfl rfl kt kf
theorem b_X12_doesExtend_93 {d : Nat} {r : PO × PM} {I : Nat → Nat → Int} {S : PS} {a0 : Nat} {x1 x2 x3 x4 x5 x6 : Int} (ho1 : -2147483648 ≤ x6 - 1 ∧ x6 - 1 ≤ 2147483647) (k : Ev d mX12_doesExtend (57, [some (vR (some (22, 0, a0))), some (vI x1), some (vI x2), some (vI x3), some (vI x4), some (vI x5), some (vI (x6 - 1))], [], (I, S)) r) : Ev d mX12_doesExtend (93, [some (vR (some (22, 0, a0))), some (vI x1), some (vI x2), some (vI x3), some (vI x4), some (vI x5), some (vI x6)], [], (I, S)) r :=
  s_iincpn [some (vR (some (22, 0, a0))), some (vI x1), some (vI x2), some (vI x3), some (vI x4), some (vI x5), some (vI (x6 - 1))] rfl rfl ho1 rfl <|
  s_goto 57 rfl rfl k
theorem b_X12_doesExtend_99 {d : Nat} {r : PO × PM} {I : Nat → Nat → Int} {S : PS} {a0 : Nat} {x1 x2 x3 x4 x5 x6 z : Int} {I1 : Nat → Nat → Int} {S1 : PS} (c : Ca d mX12_goesWith [vR (some (22, 0, a0)), vI x1, vI x6, vI x3] (I, S) (.inl (some (vI z))) (I1, S1)) (k : Ev (d + 1) mX12_doesExtend (107, [some (vR (some (22, 0, a0))), some (vI x1), some (vI x2), some (vI x3), some (vI x4), some (vI x5), some (vI x6)], [vI z], (I1, S1)) r) : Ev (d + 1) mX12_doesExtend (99, [some (vR (some (22, 0, a0))), some (vI x1), some (vI x2), some (vI x3), some (vI x4), some (vI x5), some (vI x6)], [], (I, S)) r :=
  s_aload_n rfl rfl rfl <|
  s_iload_n rfl rfl rfl <|
  s_iload rfl rfl rfl <|
  s_iload_n rfl rfl rfl <|
  s_cvI rfl rfl rfl rfl rfl c k
theorem b_X12_doesExtend_107 {d : Nat} {r : PO × PM} {I : Nat → Nat → Int} {S : PS} {a0 : Nat} {x1 x2 x3 x4 x5 x6 xs0 : Int} (kt : xs0 ≠ 0 → Ev d mX12_doesExtend (113, [some (vR (some (22, 0, a0))), some (vI x1), some (vI x2), some (vI x3), some (vI x4), some (vI x5), some (vI x6)], [], (I, S)) r) (kf : xs0 = 0 → Ev d mX12_doesExtend (110, [some (vR (some (22, 0, a0))), some (vI x1), some (vI x2), some (vI x3), some (vI x4), some (vI x5), some (vI x6)], [], (I, S)) r) : Ev d mX12_doesExtend (107, [some (vR (some (22, 0, a0))), some (vI x1), some (vI x2), some (vI x3), some (vI x4), some (vI x5), some (vI x6)], [vI xs0], (I, S)) r :=
  s_if_ne 113 rfl rfl kt kf
theorem b_X12_doesExtend_110 {d : Nat} {r : PO × PM} {I : Nat → Nat → Int} {S : PS} {a0 : Nat} {x1 x2 x3 x4 x5 x6 : Int} (k : Ev d mX12_doesExtend (57, [some (vR (some (22, 0, a0))), some (vI x1), some (vI x2), some (vI x3), some (vI x4), some (vI x5), some (vI x6)], [], (I, S)) r) : Ev d mX12_doesExtend (110, [some (vR (some (22, 0, a0))), some (vI x1), some (vI x2), some (vI x3), some (vI x4), some (vI x5), some (vI x6)], [], (I, S)) r :=
  s_goto 57 rfl rfl k
theorem b_X12_doesExtend_113 {d : Nat} {r : PO × PM} {I : Nat → Nat → Int} {S : PS} {a0 : Nat} {x1 x2 x3 x4 x5 x6 : Int} (ho1 : -2147483648 ≤ x6 + 1 ∧ x6 + 1 ≤ 2147483647) (kt : x5 ≤ x6 + 1 → Ev d mX12_doesExtend (57, [some (vR (some (22, 0, a0))), some (vI x1), some (vI x2), some (vI x3), some (vI x4), some (vI x5), some (vI (x6 + 1))], [], (I, S)) r) (kf : x6 + 1 < x5 → Ev d mX12_doesExtend (123, [some (vR (some (22, 0, a0))), some (vI x1), some (vI x2), some (vI x3), some (vI x4), some (vI x5), some (vI (x6 + 1))], [], (I, S)) r) : Ev d mX12_doesExtend (113, [some (vR (some (22, 0, a0))), some (vI x1), some (vI x2), some (vI x3), some (vI x4), some (vI x5), some (vI x6)], [], (I, S)) r :=
  s_iincp [some (vR (some (22, 0, a0))), some (vI x1), some (vI x2), some (vI x3), some (vI x4), some (vI x5), some (vI (x6 + 1))] rfl rfl ho1 rfl <|
  s_iload rfl rfl rfl <|
  s_iload rfl rfl rfl <|
  s_icmp_ge 57 rfl rfl kt kf
theorem b_X12_doesExtend_123 {d : Nat} {r : PO × PM} {I : Nat → Nat → Int} {S : PS} {a0 p1 q1 : Nat} {x1 x2 x3 x4 x5 x6 : Int} (hr1 : S.1 a0 33 = some (0, q1, p1)) (hi2 : 0 ≤ x6 ∧ x6 < (q1 : Nat)) (k : Ev d mX12_doesExtend (57, [some (vR (some (22, 0, a0))), some (vI x1), some (vI x2), some (vI x3), some (vI x4), some (vI x5), some (vI x6)], [], ((up2 I p1 (x6.toNat) (-1)), S)) r) : Ev d mX12_doesExtend (123, [some (vR (some (22, 0, a0))), some (vI x1), some (vI x2), some (vI x3), some (vI x4), some (vI x5), some (vI x6)], [], (I, S)) r :=
  s_aload_n rfl rfl rfl <|
  s_getR rfl rfl rfl hr1 <|
  s_iload rfl rfl rfl <|
  s_iconst rfl rfl <|
  s_iast rfl hi2 <|
  s_goto 57 rfl rfl k
theorem b_X12_doesExtend_134 {d : Nat} {r : PO × PM} {I : Nat → Nat → Int} {S : PS} {a0 : Nat} {x1 x2 x3 x4 x5 x6 : Int} (kt : x6 ≠ x5 → Ev d mX12_doesExtend (145, [some (vR (some (22, 0, a0))), some (vI x1), some (vI x2), some (vI x3), some (vI x4), some (vI x5), some (vI x6)], [], (I, S)) r) (kf : x6 = x5 → Ev d mX12_doesExtend (141, [some (vR (some (22, 0, a0))), some (vI x1), some (vI x2), some (vI x3), some (vI x4), some (vI x5), some (vI x6)], [], (I, S)) r) : Ev d mX12_doesExtend (134, [some (vR (some (22, 0, a0))), some (vI x1), some (vI x2), some (vI x3), some (vI x4), some (vI x5), some (vI x6)], [], (I, S)) r :=
  s_iload rfl rfl rfl <|
  s_iload rfl rfl rfl <|
  s_icmp_ne 145 rfl rfl kt kf
theorem b_X12_doesExtend_141 {d : Nat} {r : PO × PM} {I : Nat → Nat → Int} {S : PS} {a0 : Nat} {x1 x2 x3 x4 x5 x6 : Int} (k : Ev d mX12_doesExtend (146, [some (vR (some (22, 0, a0))), some (vI x1), some (vI x2), some (vI x3), some (vI x4), some (vI x5), some (vI x6)], [vI 1], (I, S)) r) : Ev d mX12_doesExtend (141, [some (vR (some (22, 0, a0))), some (vI x1), some (vI x2), some (vI x3), some (vI x4), some (vI x5), some (vI x6)], [], (I, S)) r :=
  s_iconst rfl rfl <|
  s_goto 146 rfl rfl k
theorem b_X12_doesExtend_145 {d : Nat} {r : PO × PM} {I : Nat → Nat → Int} {S : PS} {a0 : Nat} {x1 x2 x3 x4 x5 x6 : Int} (k : Ev d mX12_doesExtend (146, [some (vR (some (22, 0, a0))), some (vI x1), some (vI x2), some (vI x3), some (vI x4), some (vI x5), some (vI x6)], [vI 0], (I, S)) r) : Ev d mX12_doesExtend (145, [some (vR (some (22, 0, a0))), some (vI x1), some (vI x2), some (vI x3), some (vI x4), some (vI x5), some (vI x6)], [], (I, S)) r :=
  s_iconst rfl rfl <|
  k
theorem b_X12_doesExtend_146 {d : Nat} {I : Nat → Nat → Int} {S : PS} {a0 : Nat} {x1 x2 x3 x4 x5 x6 xs0 : Int} (hb1 : xs0 = 0 ∨ xs0 = 1) : Ev d mX12_doesExtend (146, [some (vR (some (22, 0, a0))), some (vI x1), some (vI x2), some (vI x3), some (vI x4), some (vI x5), some (vI x6)], [vI xs0], (I, S)) (.inl (some (vI xs0)), (I, S)) :=
  s_retz rfl rfl hb1
theorem b_X12_laysPiece_0 {d : Nat} {r : PO × PM} {I : Nat → Nat → Int} {S : PS} {a0 : Nat} {x1 z : Int} {I1 : Nat → Nat → Int} {S1 : PS} (c : Ca d mX12_ring [vR (some (22, 0, a0)), vI x1] (I, S) (.inl (some (vI z))) (I1, S1)) (k : Ev (d + 1) mX12_laysPiece (9, [some (vR (some (22, 0, a0))), some (vI x1), some (vI 0), none, none, none, none], [vI z, vI 2, vI 1], (I1, S1)) r) : Ev (d + 1) mX12_laysPiece (0, [some (vR (some (22, 0, a0))), some (vI x1), none, none, none, none, none], [], (I, S)) r :=
  s_iconst rfl rfl <|
  s_istore_n [some (vR (some (22, 0, a0))), some (vI x1), some (vI 0), none, none, none, none] rfl rfl <|
  s_iconst rfl rfl <|
  s_iconst rfl rfl <|
  s_aload_n rfl rfl rfl <|
  s_iload_n rfl rfl rfl <|
  s_cvI rfl rfl rfl rfl rfl c k
theorem b_X12_laysPiece_9 {d : Nat} {r : PO × PM} {I : Nat → Nat → Int} {S : PS} {a0 : Nat} {x1 x2 xs0 xs1 xs2 : Int} (ho1 : -2147483648 ≤ xs1 * xs2 ∧ xs1 * xs2 ≤ 2147483647) (k : Ev d mX12_laysPiece (15, [some (vR (some (22, 0, a0))), some (vI x1), some (vI x2), some (vI (p_shl xs0 (xs1 * xs2))), some (vI 0), none, none], [], (I, S)) r) : Ev d mX12_laysPiece (9, [some (vR (some (22, 0, a0))), some (vI x1), some (vI x2), none, none, none, none], [vI xs2, vI xs1, vI xs0], (I, S)) r :=
  s_imulp rfl ho1 <|
  s_ishl rfl <|
  s_istore_n [some (vR (some (22, 0, a0))), some (vI x1), some (vI x2), some (vI (p_shl xs0 (xs1 * xs2))), none, none, none] rfl rfl <|
  s_iconst rfl rfl <|
  s_istore [some (vR (some (22, 0, a0))), some (vI x1), some (vI x2), some (vI (p_shl xs0 (xs1 * xs2))), some (vI 0), none, none] rfl rfl <|
  k
theorem b_X12_laysPiece_15 {d : Nat} {r : PO × PM} {I : Nat → Nat → Int} {S : PS} {a0 : Nat} {x1 x2 x3 x4 : Int} (kt : x3 ≤ x4 → Ev d mX12_laysPiece (84, [some (vR (some (22, 0, a0))), some (vI x1), some (vI x2), some (vI x3), some (vI x4), none, none], [], (I, S)) r) (kf : x4 < x3 → Ev d mX12_laysPiece (21, [some (vR (some (22, 0, a0))), some (vI x1), some (vI x2), some (vI x3), some (vI x4), none, none], [], (I, S)) r) : Ev d mX12_laysPiece (15, [some (vR (some (22, 0, a0))), some (vI x1), some (vI x2), some (vI x3), some (vI x4), none, none], [], (I, S)) r :=
  s_iload rfl rfl rfl <|
  s_iload_n rfl rfl rfl <|
  s_icmp_ge 84 rfl rfl kt kf
theorem b_X12_laysPiece_21 {d : Nat} {r : PO × PM} {I : Nat → Nat → Int} {S : PS} {a0 p1 q1 : Nat} {x1 x2 x3 x4 z : Int} {I1 : Nat → Nat → Int} {S1 : PS} (hr1 : S.1 a0 32 = some (0, q1, p1)) (hi2 : 0 ≤ x4 ∧ x4 < (q1 : Nat)) (c : Ca d mX12_isProper [vR (some (22, 0, a0)), vI x1, vI x4] ((up2 I p1 (x4.toNat) (-1)), S) (.inl (some (vI z))) (I1, S1)) (k : Ev (d + 1) mX12_laysPiece (36, [some (vR (some (22, 0, a0))), some (vI x1), some (vI x2), some (vI x3), some (vI x4), none, none], [vI z], (I1, S1)) r) : Ev (d + 1) mX12_laysPiece (21, [some (vR (some (22, 0, a0))), some (vI x1), some (vI x2), some (vI x3), some (vI x4), none, none], [], (I, S)) r :=
  s_aload_n rfl rfl rfl <|
  s_getR rfl rfl rfl hr1 <|
  s_iload rfl rfl rfl <|
  s_iconst rfl rfl <|
  s_iast rfl hi2 <|
  s_aload_n rfl rfl rfl <|
  s_iload_n rfl rfl rfl <|
  s_iload rfl rfl rfl <|
  s_cvI rfl rfl rfl rfl rfl c k
theorem b_X12_laysPiece_36 {d : Nat} {r : PO × PM} {I : Nat → Nat → Int} {S : PS} {a0 : Nat} {x1 x2 x3 x4 xs0 : Int} (kt : xs0 = 0 → Ev d mX12_laysPiece (78, [some (vR (some (22, 0, a0))), some (vI x1), some (vI x2), some (vI x3), some (vI x4), none, none], [], (I, S)) r) (kf : xs0 ≠ 0 → Ev d mX12_laysPiece (39, [some (vR (some (22, 0, a0))), some (vI x1), some (vI x2), some (vI x3), some (vI x4), none, none], [], (I, S)) r) : Ev d mX12_laysPiece (36, [some (vR (some (22, 0, a0))), some (vI x1), some (vI x2), some (vI x3), some (vI x4), none, none], [vI xs0], (I, S)) r :=
  s_if_eq 78 rfl rfl kt kf
theorem b_X12_laysPiece_39 {d : Nat} {r : PO × PM} {I : Nat → Nat → Int} {S : PS} {a0 : Nat} {x1 x2 x3 x4 z : Int} {I1 : Nat → Nat → Int} {S1 : PS} (c : Ca d mX12_named0 [vR (some (22, 0, a0)), vI x1, vI x4] (I, S) (.inl (some (vI z))) (I1, S1)) (k : Ev (d + 1) mX12_laysPiece (46, [some (vR (some (22, 0, a0))), some (vI x1), some (vI x2), some (vI x3), some (vI x4), none, none], [vI z], (I1, S1)) r) : Ev (d + 1) mX12_laysPiece (39, [some (vR (some (22, 0, a0))), some (vI x1), some (vI x2), some (vI x3), some (vI x4), none, none], [], (I, S)) r :=
  s_aload_n rfl rfl rfl <|
  s_iload_n rfl rfl rfl <|
  s_iload rfl rfl rfl <|
  s_cvI rfl rfl rfl rfl rfl c k
theorem b_X12_laysPiece_46 {d : Nat} {r : PO × PM} {I : Nat → Nat → Int} {S : PS} {a0 : Nat} {x1 x2 x3 x4 xs0 : Int} (kt : xs0 = x4 → Ev d mX12_laysPiece (54, [some (vR (some (22, 0, a0))), some (vI x1), some (vI x2), some (vI x3), some (vI x4), none, none], [], (I, S)) r) (kf : xs0 ≠ x4 → Ev d mX12_laysPiece (51, [some (vR (some (22, 0, a0))), some (vI x1), some (vI x2), some (vI x3), some (vI x4), none, none], [], (I, S)) r) : Ev d mX12_laysPiece (46, [some (vR (some (22, 0, a0))), some (vI x1), some (vI x2), some (vI x3), some (vI x4), none, none], [vI xs0], (I, S)) r :=
  s_iload rfl rfl rfl <|
  s_icmp_eq 54 rfl rfl kt kf
theorem b_X12_laysPiece_51 {d : Nat} {r : PO × PM} {I : Nat → Nat → Int} {S : PS} {a0 : Nat} {x1 x2 x3 x4 : Int} (k : Ev d mX12_laysPiece (78, [some (vR (some (22, 0, a0))), some (vI x1), some (vI x2), some (vI x3), some (vI x4), none, none], [], (I, S)) r) : Ev d mX12_laysPiece (51, [some (vR (some (22, 0, a0))), some (vI x1), some (vI x2), some (vI x3), some (vI x4), none, none], [], (I, S)) r :=
  s_goto 78 rfl rfl k
theorem b_X12_laysPiece_54 {d : Nat} {r : PO × PM} {I : Nat → Nat → Int} {S : PS} {a0 p1 q1 p3 q3 : Nat} {x1 x2 x3 x4 : Int} (hr1 : S.1 a0 32 = some (0, q1, p1)) (hi2 : 0 ≤ x4 ∧ x4 < (q1 : Nat)) (hr3 : S.1 a0 28 = some (0, q3, p3)) (ho4 : -2147483648 ≤ 96 * x1 ∧ 96 * x1 ≤ 2147483647) (ho5 : -2147483648 ≤ (96 * x1) + x2 ∧ (96 * x1) + x2 ≤ 2147483647) (hi6 : 0 ≤ (96 * x1) + x2 ∧ (96 * x1) + x2 < (q3 : Nat)) (ho7 : -2147483648 ≤ x2 + 1 ∧ x2 + 1 ≤ 2147483647) (k : Ev d mX12_laysPiece (78, [some (vR (some (22, 0, a0))), some (vI x1), some (vI (x2 + 1)), some (vI x3), some (vI x4), none, none], [], ((up2 (up2 I p1 (x4.toNat) x2) p3 (((96 * x1) + x2).toNat) x4), S)) r) : Ev d mX12_laysPiece (54, [some (vR (some (22, 0, a0))), some (vI x1), some (vI x2), some (vI x3), some (vI x4), none, none], [], (I, S)) r :=
  s_aload_n rfl rfl rfl <|
  s_getR rfl rfl rfl hr1 <|
  s_iload rfl rfl rfl <|
  s_iload_n rfl rfl rfl <|
  s_iast rfl hi2 <|
  s_aload_n rfl rfl rfl <|
  s_getR rfl rfl rfl hr3 <|
  s_bipush rfl rfl <|
  s_iload_n rfl rfl rfl <|
  s_imulp rfl ho4 <|
  s_iload_n rfl rfl rfl <|
  s_iaddp rfl ho5 <|
  s_iload rfl rfl rfl <|
  s_iast rfl hi6 <|
  s_iincp [some (vR (some (22, 0, a0))), some (vI x1), some (vI (x2 + 1)), some (vI x3), some (vI x4), none, none] rfl rfl ho7 rfl <|
  k
theorem b_X12_laysPiece_78 {d : Nat} {r : PO × PM} {I : Nat → Nat → Int} {S : PS} {a0 : Nat} {x1 x2 x3 x4 : Int} (ho1 : -2147483648 ≤ x4 + 1 ∧ x4 + 1 ≤ 2147483647) (k : Ev d mX12_laysPiece (15, [some (vR (some (22, 0, a0))), some (vI x1), some (vI x2), some (vI x3), some (vI (x4 + 1)), none, none], [], (I, S)) r) : Ev d mX12_laysPiece (78, [some (vR (some (22, 0, a0))), some (vI x1), some (vI x2), some (vI x3), some (vI x4), none, none], [], (I, S)) r :=
  s_iincp [some (vR (some (22, 0, a0))), some (vI x1), some (vI x2), some (vI x3), some (vI (x4 + 1)), none, none] rfl rfl ho1 rfl <|
  s_goto 15 rfl rfl k
theorem b_X12_laysPiece_84 {d : Nat} {r : PO × PM} {I : Nat → Nat → Int} {S : PS} {a0 p1 q1 : Nat} {x1 x2 x3 x4 : Int} (hr1 : S.1 a0 27 = some (0, q1, p1)) (hi2 : 0 ≤ x1 ∧ x1 < (q1 : Nat)) (k : Ev d mX12_laysPiece (94, [some (vR (some (22, 0, a0))), some (vI x1), some (vI x2), some (vI x3), some (vI 0), none, none], [], ((up2 I p1 (x1.toNat) x2), S)) r) : Ev d mX12_laysPiece (84, [some (vR (some (22, 0, a0))), some (vI x1), some (vI x2), some (vI x3), some (vI x4), none, none], [], (I, S)) r :=
  s_aload_n rfl rfl rfl <|
  s_getR rfl rfl rfl hr1 <|
  s_iload_n rfl rfl rfl <|
  s_iload_n rfl rfl rfl <|
  s_iast rfl hi2 <|
  s_iconst rfl rfl <|
  s_istore [some (vR (some (22, 0, a0))), some (vI x1), some (vI x2), some (vI x3), some (vI 0), none, none] rfl rfl <|
  k
theorem b_X12_laysPiece_94 {d : Nat} {r : PO × PM} {I : Nat → Nat → Int} {S : PS} {a0 : Nat} {x1 x2 x3 x4 : Int} (kt : x2 ≤ x4 → Ev d mX12_laysPiece (209, [some (vR (some (22, 0, a0))), some (vI x1), some (vI x2), some (vI x3), some (vI x4), none, none], [], (I, S)) r) (kf : x4 < x2 → Ev d mX12_laysPiece (100, [some (vR (some (22, 0, a0))), some (vI x1), some (vI x2), some (vI x3), some (vI x4), none, none], [], (I, S)) r) : Ev d mX12_laysPiece (94, [some (vR (some (22, 0, a0))), some (vI x1), some (vI x2), some (vI x3), some (vI x4), none, none], [], (I, S)) r :=
  s_iload rfl rfl rfl <|
  s_iload_n rfl rfl rfl <|
  s_icmp_ge 209 rfl rfl kt kf
theorem b_X12_laysPiece_100 {d : Nat} {r : PO × PM} {I : Nat → Nat → Int} {S : PS} {a0 p3 q3 p4 q4 : Nat} {x1 x2 x3 x4 z : Int} {I1 : Nat → Nat → Int} {S1 : PS} (ho1 : -2147483648 ≤ 96 * x1 ∧ 96 * x1 ≤ 2147483647) (ho2 : -2147483648 ≤ (96 * x1) + x4 ∧ (96 * x1) + x4 ≤ 2147483647) (hr3 : S.1 a0 29 = some (0, q3, p3)) (hr4 : S.1 a0 28 = some (0, q4, p4)) (hi5 : 0 ≤ (96 * x1) + x4 ∧ (96 * x1) + x4 < (q4 : Nat)) (c : Ca d mX12_doesExtend [vR (some (22, 0, a0)), vI x1, vI (I p4 ((96 * x1) + x4).toNat), vI 0] (I, S) (.inl (some (vI z))) (I1, S1)) (k : Ev (d + 1) mX12_laysPiece (128, [some (vR (some (22, 0, a0))), some (vI x1), some (vI x2), some (vI x3), some (vI x4), some (vI ((96 * x1) + x4)), none], [vI z, vI ((96 * x1) + x4), vR (some (0, q3, p3))], (I1, S1)) r) : Ev (d + 1) mX12_laysPiece (100, [some (vR (some (22, 0, a0))), some (vI x1), some (vI x2), some (vI x3), some (vI x4), none, none], [], (I, S)) r :=
  s_bipush rfl rfl <|
  s_iload_n rfl rfl rfl <|
  s_imulp rfl ho1 <|
  s_iload rfl rfl rfl <|
  s_iaddp rfl ho2 <|
  s_istore [some (vR (some (22, 0, a0))), some (vI x1), some (vI x2), some (vI x3), some (vI x4), some (vI ((96 * x1) + x4)), none] rfl rfl <|
  s_aload_n rfl rfl rfl <|
  s_getR rfl rfl rfl hr3 <|
  s_iload rfl rfl rfl <|
  s_aload_n rfl rfl rfl <|
  s_iload_n rfl rfl rfl <|
  s_aload_n rfl rfl rfl <|
  s_getR rfl rfl rfl hr4 <|
  s_iload rfl rfl rfl <|
  s_iald rfl rfl hi5 <|
  s_iconst rfl rfl <|
  s_cvI rfl rfl rfl rfl rfl c k
theorem b_X12_laysPiece_128 {d : Nat} {r : PO × PM} {I : Nat → Nat → Int} {S : PS} {a0 ns0 as0 : Nat} {x1 x2 x3 x4 x5 xs1 xs2 : Int} (kt : xs2 = 0 → Ev d mX12_laysPiece (135, [some (vR (some (22, 0, a0))), some (vI x1), some (vI x2), some (vI x3), some (vI x4), some (vI x5), none], [vI xs1, vR (some (0, ns0, as0))], (I, S)) r) (kf : xs2 ≠ 0 → Ev d mX12_laysPiece (131, [some (vR (some (22, 0, a0))), some (vI x1), some (vI x2), some (vI x3), some (vI x4), some (vI x5), none], [vI xs1, vR (some (0, ns0, as0))], (I, S)) r) : Ev d mX12_laysPiece (128, [some (vR (some (22, 0, a0))), some (vI x1), some (vI x2), some (vI x3), some (vI x4), some (vI x5), none], [vI xs2, vI xs1, vR (some (0, ns0, as0))], (I, S)) r :=
  s_if_eq 135 rfl rfl kt kf
theorem b_X12_laysPiece_131 {d : Nat} {r : PO × PM} {I : Nat → Nat → Int} {S : PS} {a0 ns0 as0 : Nat} {x1 x2 x3 x4 x5 xs1 : Int} (k : Ev d mX12_laysPiece (136, [some (vR (some (22, 0, a0))), some (vI x1), some (vI x2), some (vI x3), some (vI x4), some (vI x5), none], [vI 1, vI xs1, vR (some (0, ns0, as0))], (I, S)) r) : Ev d mX12_laysPiece (131, [some (vR (some (22, 0, a0))), some (vI x1), some (vI x2), some (vI x3), some (vI x4), some (vI x5), none], [vI xs1, vR (some (0, ns0, as0))], (I, S)) r :=
  s_iconst rfl rfl <|
  s_goto 136 rfl rfl k
theorem b_X12_laysPiece_135 {d : Nat} {r : PO × PM} {I : Nat → Nat → Int} {S : PS} {a0 ns0 as0 : Nat} {x1 x2 x3 x4 x5 xs1 : Int} (k : Ev d mX12_laysPiece (136, [some (vR (some (22, 0, a0))), some (vI x1), some (vI x2), some (vI x3), some (vI x4), some (vI x5), none], [vI 0, vI xs1, vR (some (0, ns0, as0))], (I, S)) r) : Ev d mX12_laysPiece (135, [some (vR (some (22, 0, a0))), some (vI x1), some (vI x2), some (vI x3), some (vI x4), some (vI x5), none], [vI xs1, vR (some (0, ns0, as0))], (I, S)) r :=
  s_iconst rfl rfl <|
  k
theorem b_X12_laysPiece_136 {d : Nat} {r : PO × PM} {I : Nat → Nat → Int} {S : PS} {a0 ns0 as0 p2 q2 p3 q3 : Nat} {x1 x2 x3 x4 x5 xs1 xs2 : Int} (hi1 : 0 ≤ xs1 ∧ xs1 < (ns0 : Nat)) (hr2 : S.1 a0 30 = some (0, q2, p2)) (hr3 : S.1 a0 19 = some (0, q3, p3)) (ho4 : -2147483648 ≤ 20 * x1 ∧ 20 * x1 ≤ 2147483647) (ho5 : -2147483648 ≤ (20 * x1) + 10 ∧ (20 * x1) + 10 ≤ 2147483647) (hi6 : 0 ≤ (20 * x1) + 10 ∧ (20 * x1) + 10 < (q3 : Nat)) (kt : (up2 I as0 (xs1.toNat) xs2) p3 ((20 * x1) + 10).toNat ≤ 0 → Ev d mX12_laysPiece (178, [some (vR (some (22, 0, a0))), some (vI x1), some (vI x2), some (vI x3), some (vI x4), some (vI x5), none], [vI x5, vR (some (0, q2, p2))], ((up2 I as0 (xs1.toNat) xs2), S)) r) (kf : 0 < (up2 I as0 (xs1.toNat) xs2) p3 ((20 * x1) + 10).toNat → Ev d mX12_laysPiece (158, [some (vR (some (22, 0, a0))), some (vI x1), some (vI x2), some (vI x3), some (vI x4), some (vI x5), none], [vI x5, vR (some (0, q2, p2))], ((up2 I as0 (xs1.toNat) xs2), S)) r) : Ev d mX12_laysPiece (136, [some (vR (some (22, 0, a0))), some (vI x1), some (vI x2), some (vI x3), some (vI x4), some (vI x5), none], [vI xs2, vI xs1, vR (some (0, ns0, as0))], (I, S)) r :=
  s_iast rfl hi1 <|
  s_aload_n rfl rfl rfl <|
  s_getR rfl rfl rfl hr2 <|
  s_iload rfl rfl rfl <|
  s_aload_n rfl rfl rfl <|
  s_getR rfl rfl rfl hr3 <|
  s_bipush rfl rfl <|
  s_iload_n rfl rfl rfl <|
  s_imulp rfl ho4 <|
  s_bipush rfl rfl <|
  s_iaddp rfl ho5 <|
  s_iald rfl rfl hi6 <|
  s_if_le 178 rfl rfl kt kf
theorem b_X12_laysPiece_158 {d : Nat} {r : PO × PM} {I : Nat → Nat → Int} {S : PS} {a0 ns0 as0 p1 q1 : Nat} {x1 x2 x3 x4 x5 xs1 z : Int} {I1 : Nat → Nat → Int} {S1 : PS} (hr1 : S.1 a0 28 = some (0, q1, p1)) (hi2 : 0 ≤ x5 ∧ x5 < (q1 : Nat)) (c : Ca d mX12_doesExtend [vR (some (22, 0, a0)), vI x1, vI (I p1 x5.toNat), vI 1] (I, S) (.inl (some (vI z))) (I1, S1)) (k : Ev (d + 1) mX12_laysPiece (171, [some (vR (some (22, 0, a0))), some (vI x1), some (vI x2), some (vI x3), some (vI x4), some (vI x5), none], [vI z, vI xs1, vR (some (0, ns0, as0))], (I1, S1)) r) : Ev (d + 1) mX12_laysPiece (158, [some (vR (some (22, 0, a0))), some (vI x1), some (vI x2), some (vI x3), some (vI x4), some (vI x5), none], [vI xs1, vR (some (0, ns0, as0))], (I, S)) r :=
  s_aload_n rfl rfl rfl <|
  s_iload_n rfl rfl rfl <|
  s_aload_n rfl rfl rfl <|
  s_getR rfl rfl rfl hr1 <|
  s_iload rfl rfl rfl <|
  s_iald rfl rfl hi2 <|
  s_iconst rfl rfl <|
  s_cvI rfl rfl rfl rfl rfl c k
theorem b_X12_laysPiece_171 {d : Nat} {r : PO × PM} {I : Nat → Nat → Int} {S : PS} {a0 ns0 as0 : Nat} {x1 x2 x3 x4 x5 xs1 xs2 : Int} (kt : xs2 = 0 → Ev d mX12_laysPiece (178, [some (vR (some (22, 0, a0))), some (vI x1), some (vI x2), some (vI x3), some (vI x4), some (vI x5), none], [vI xs1, vR (some (0, ns0, as0))], (I, S)) r) (kf : xs2 ≠ 0 → Ev d mX12_laysPiece (174, [some (vR (some (22, 0, a0))), some (vI x1), some (vI x2), some (vI x3), some (vI x4), some (vI x5), none], [vI xs1, vR (some (0, ns0, as0))], (I, S)) r) : Ev d mX12_laysPiece (171, [some (vR (some (22, 0, a0))), some (vI x1), some (vI x2), some (vI x3), some (vI x4), some (vI x5), none], [vI xs2, vI xs1, vR (some (0, ns0, as0))], (I, S)) r :=
  s_if_eq 178 rfl rfl kt kf
theorem b_X12_laysPiece_174 {d : Nat} {r : PO × PM} {I : Nat → Nat → Int} {S : PS} {a0 ns0 as0 : Nat} {x1 x2 x3 x4 x5 xs1 : Int} (k : Ev d mX12_laysPiece (179, [some (vR (some (22, 0, a0))), some (vI x1), some (vI x2), some (vI x3), some (vI x4), some (vI x5), none], [vI 1, vI xs1, vR (some (0, ns0, as0))], (I, S)) r) : Ev d mX12_laysPiece (174, [some (vR (some (22, 0, a0))), some (vI x1), some (vI x2), some (vI x3), some (vI x4), some (vI x5), none], [vI xs1, vR (some (0, ns0, as0))], (I, S)) r :=
  s_iconst rfl rfl <|
  s_goto 179 rfl rfl k
theorem b_X12_laysPiece_178 {d : Nat} {r : PO × PM} {I : Nat → Nat → Int} {S : PS} {a0 ns0 as0 : Nat} {x1 x2 x3 x4 x5 xs1 : Int} (k : Ev d mX12_laysPiece (179, [some (vR (some (22, 0, a0))), some (vI x1), some (vI x2), some (vI x3), some (vI x4), some (vI x5), none], [vI 0, vI xs1, vR (some (0, ns0, as0))], (I, S)) r) : Ev d mX12_laysPiece (178, [some (vR (some (22, 0, a0))), some (vI x1), some (vI x2), some (vI x3), some (vI x4), some (vI x5), none], [vI xs1, vR (some (0, ns0, as0))], (I, S)) r :=
  s_iconst rfl rfl <|
  k
theorem b_X12_laysPiece_179 {d : Nat} {r : PO × PM} {I : Nat → Nat → Int} {S : PS} {a0 ns0 as0 p2 q2 p3 q3 : Nat} {x1 x2 x3 x4 x5 xs1 xs2 : Int} (hi1 : 0 ≤ xs1 ∧ xs1 < (ns0 : Nat)) (hr2 : S.1 a0 31 = some (0, q2, p2)) (hr3 : S.1 a0 29 = some (0, q3, p3)) (hi4 : 0 ≤ x5 ∧ x5 < (q3 : Nat)) (kt : (up2 I as0 (xs1.toNat) xs2) p3 x5.toNat ≠ 1 → Ev d mX12_laysPiece (201, [some (vR (some (22, 0, a0))), some (vI x1), some (vI x2), some (vI x3), some (vI x4), some (vI x5), none], [vI x5, vR (some (0, q2, p2))], ((up2 I as0 (xs1.toNat) xs2), S)) r) (kf : (up2 I as0 (xs1.toNat) xs2) p3 x5.toNat = 1 → Ev d mX12_laysPiece (197, [some (vR (some (22, 0, a0))), some (vI x1), some (vI x2), some (vI x3), some (vI x4), some (vI x5), none], [vI x5, vR (some (0, q2, p2))], ((up2 I as0 (xs1.toNat) xs2), S)) r) : Ev d mX12_laysPiece (179, [some (vR (some (22, 0, a0))), some (vI x1), some (vI x2), some (vI x3), some (vI x4), some (vI x5), none], [vI xs2, vI xs1, vR (some (0, ns0, as0))], (I, S)) r :=
  s_iast rfl hi1 <|
  s_aload_n rfl rfl rfl <|
  s_getR rfl rfl rfl hr2 <|
  s_iload rfl rfl rfl <|
  s_aload_n rfl rfl rfl <|
  s_getR rfl rfl rfl hr3 <|
  s_iload rfl rfl rfl <|
  s_iald rfl rfl hi4 <|
  s_iconst rfl rfl <|
  s_icmp_ne 201 rfl rfl kt kf
theorem b_X12_laysPiece_197 {d : Nat} {r : PO × PM} {I : Nat → Nat → Int} {S : PS} {a0 ns0 as0 : Nat} {x1 x2 x3 x4 x5 xs1 : Int} (k : Ev d mX12_laysPiece (202, [some (vR (some (22, 0, a0))), some (vI x1), some (vI x2), some (vI x3), some (vI x4), some (vI x5), none], [vI 0, vI xs1, vR (some (0, ns0, as0))], (I, S)) r) : Ev d mX12_laysPiece (197, [some (vR (some (22, 0, a0))), some (vI x1), some (vI x2), some (vI x3), some (vI x4), some (vI x5), none], [vI xs1, vR (some (0, ns0, as0))], (I, S)) r :=
  s_iconst rfl rfl <|
  s_goto 202 rfl rfl k
theorem b_X12_laysPiece_201 {d : Nat} {r : PO × PM} {I : Nat → Nat → Int} {S : PS} {a0 ns0 as0 : Nat} {x1 x2 x3 x4 x5 xs1 : Int} (k : Ev d mX12_laysPiece (202, [some (vR (some (22, 0, a0))), some (vI x1), some (vI x2), some (vI x3), some (vI x4), some (vI x5), none], [vI (-1), vI xs1, vR (some (0, ns0, as0))], (I, S)) r) : Ev d mX12_laysPiece (201, [some (vR (some (22, 0, a0))), some (vI x1), some (vI x2), some (vI x3), some (vI x4), some (vI x5), none], [vI xs1, vR (some (0, ns0, as0))], (I, S)) r :=
  s_iconst rfl rfl <|
  k
theorem b_X12_laysPiece_202 {d : Nat} {r : PO × PM} {I : Nat → Nat → Int} {S : PS} {a0 ns0 as0 : Nat} {x1 x2 x3 x4 x5 xs1 xs2 : Int} (hi1 : 0 ≤ xs1 ∧ xs1 < (ns0 : Nat)) (ho2 : -2147483648 ≤ x4 + 1 ∧ x4 + 1 ≤ 2147483647) (k : Ev d mX12_laysPiece (94, [some (vR (some (22, 0, a0))), some (vI x1), some (vI x2), some (vI x3), some (vI (x4 + 1)), none, none], [], ((up2 I as0 (xs1.toNat) xs2), S)) r) : Ev d mX12_laysPiece (202, [some (vR (some (22, 0, a0))), some (vI x1), some (vI x2), some (vI x3), some (vI x4), some (vI x5), none], [vI xs2, vI xs1, vR (some (0, ns0, as0))], (I, S)) r :=
  s_iast rfl hi1 <|
  s_iincp [some (vR (some (22, 0, a0))), some (vI x1), some (vI x2), some (vI x3), some (vI (x4 + 1)), some (vI x5), none] rfl rfl ho2 rfl <|
  s_goto 94 rfl rfl (ev_forget [false, false, false, false, false, true, false] rfl k)
theorem b_X12_laysPiece_209 {d : Nat} {r : PO × PM} {I : Nat → Nat → Int} {S : PS} {a0 : Nat} {x1 x2 x3 x4 : Int} (k : Ev d mX12_laysPiece (215, [some (vR (some (22, 0, a0))), some (vI x1), some (vI x2), some (vI x3), some (vI 1), some (vI 1), none], [], (I, S)) r) : Ev d mX12_laysPiece (209, [some (vR (some (22, 0, a0))), some (vI x1), some (vI x2), some (vI x3), some (vI x4), none, none], [], (I, S)) r :=
  s_iconst rfl rfl <|
  s_istore [some (vR (some (22, 0, a0))), some (vI x1), some (vI x2), some (vI x3), some (vI 1), none, none] rfl rfl <|
  s_iconst rfl rfl <|
  s_istore [some (vR (some (22, 0, a0))), some (vI x1), some (vI x2), some (vI x3), some (vI 1), some (vI 1), none] rfl rfl <|
  k
theorem b_X12_laysPiece_215 {d : Nat} {r : PO × PM} {I : Nat → Nat → Int} {S : PS} {a0 : Nat} {x1 x2 x3 x4 x5 : Int} (kt : x4 = 0 → Ev d mX12_laysPiece (292, [some (vR (some (22, 0, a0))), some (vI x1), some (vI x2), some (vI x3), some (vI x4), some (vI x5), none], [], (I, S)) r) (kf : x4 ≠ 0 → Ev d mX12_laysPiece (220, [some (vR (some (22, 0, a0))), some (vI x1), some (vI x2), some (vI x3), some (vI x4), some (vI x5), none], [], (I, S)) r) : Ev d mX12_laysPiece (215, [some (vR (some (22, 0, a0))), some (vI x1), some (vI x2), some (vI x3), some (vI x4), some (vI x5), none], [], (I, S)) r :=
  s_iload rfl rfl rfl <|
  s_if_eq 292 rfl rfl kt kf
theorem b_X12_laysPiece_220 {d : Nat} {r : PO × PM} {I : Nat → Nat → Int} {S : PS} {a0 : Nat} {x1 x2 x3 x4 x5 : Int} (k : Ev d mX12_laysPiece (226, [some (vR (some (22, 0, a0))), some (vI x1), some (vI x2), some (vI x3), some (vI 0), some (vI x5), some (vI 0)], [], (I, S)) r) : Ev d mX12_laysPiece (220, [some (vR (some (22, 0, a0))), some (vI x1), some (vI x2), some (vI x3), some (vI x4), some (vI x5), none], [], (I, S)) r :=
  s_iconst rfl rfl <|
  s_istore [some (vR (some (22, 0, a0))), some (vI x1), some (vI x2), some (vI x3), some (vI 0), some (vI x5), none] rfl rfl <|
  s_iconst rfl rfl <|
  s_istore [some (vR (some (22, 0, a0))), some (vI x1), some (vI x2), some (vI x3), some (vI 0), some (vI x5), some (vI 0)] rfl rfl <|
  k
theorem b_X12_laysPiece_226 {d : Nat} {r : PO × PM} {I : Nat → Nat → Int} {S : PS} {a0 : Nat} {x1 x2 x3 x4 x5 x6 : Int} (kt : x2 ≤ x6 → Ev d mX12_laysPiece (286, [some (vR (some (22, 0, a0))), some (vI x1), some (vI x2), some (vI x3), some (vI x4), some (vI x5), some (vI x6)], [], (I, S)) r) (kf : x6 < x2 → Ev d mX12_laysPiece (232, [some (vR (some (22, 0, a0))), some (vI x1), some (vI x2), some (vI x3), some (vI x4), some (vI x5), some (vI x6)], [], (I, S)) r) : Ev d mX12_laysPiece (226, [some (vR (some (22, 0, a0))), some (vI x1), some (vI x2), some (vI x3), some (vI x4), some (vI x5), some (vI x6)], [], (I, S)) r :=
  s_iload rfl rfl rfl <|
  s_iload_n rfl rfl rfl <|
  s_icmp_ge 286 rfl rfl kt kf
theorem b_X12_laysPiece_232 {d : Nat} {r : PO × PM} {I : Nat → Nat → Int} {S : PS} {a0 p1 q1 : Nat} {x1 x2 x3 x4 x5 x6 : Int} (hr1 : S.1 a0 31 = some (0, q1, p1)) (ho2 : -2147483648 ≤ 96 * x1 ∧ 96 * x1 ≤ 2147483647) (ho3 : -2147483648 ≤ (96 * x1) + x6 ∧ (96 * x1) + x6 ≤ 2147483647) (hi4 : 0 ≤ (96 * x1) + x6 ∧ (96 * x1) + x6 < (q1 : Nat)) (kt : I p1 ((96 * x1) + x6).toNat ≠ (-1) → Ev d mX12_laysPiece (280, [some (vR (some (22, 0, a0))), some (vI x1), some (vI x2), some (vI x3), some (vI x4), some (vI x5), some (vI x6)], [], (I, S)) r) (kf : I p1 ((96 * x1) + x6).toNat = (-1) → Ev d mX12_laysPiece (248, [some (vR (some (22, 0, a0))), some (vI x1), some (vI x2), some (vI x3), some (vI x4), some (vI x5), some (vI x6)], [], (I, S)) r) : Ev d mX12_laysPiece (232, [some (vR (some (22, 0, a0))), some (vI x1), some (vI x2), some (vI x3), some (vI x4), some (vI x5), some (vI x6)], [], (I, S)) r :=
  s_aload_n rfl rfl rfl <|
  s_getR rfl rfl rfl hr1 <|
  s_bipush rfl rfl <|
  s_iload_n rfl rfl rfl <|
  s_imulp rfl ho2 <|
  s_iload rfl rfl rfl <|
  s_iaddp rfl ho3 <|
  s_iald rfl rfl hi4 <|
  s_iconst rfl rfl <|
  s_icmp_ne 280 rfl rfl kt kf
theorem b_X12_laysPiece_248 {d : Nat} {r : PO × PM} {I : Nat → Nat → Int} {S : PS} {a0 : Nat} {x1 x2 x3 x4 x5 x6 z : Int} {I1 : Nat → Nat → Int} {S1 : PS} (c : Ca d mX12_isLed [vR (some (22, 0, a0)), vI x1, vI x6, vI x5] (I, S) (.inl (some (vI z))) (I1, S1)) (k : Ev (d + 1) mX12_laysPiece (257, [some (vR (some (22, 0, a0))), some (vI x1), some (vI x2), some (vI x3), some (vI x4), some (vI x5), some (vI x6)], [vI z], (I1, S1)) r) : Ev (d + 1) mX12_laysPiece (248, [some (vR (some (22, 0, a0))), some (vI x1), some (vI x2), some (vI x3), some (vI x4), some (vI x5), some (vI x6)], [], (I, S)) r :=
  s_aload_n rfl rfl rfl <|
  s_iload_n rfl rfl rfl <|
  s_iload rfl rfl rfl <|
  s_iload rfl rfl rfl <|
  s_cvI rfl rfl rfl rfl rfl c k
theorem b_X12_laysPiece_257 {d : Nat} {r : PO × PM} {I : Nat → Nat → Int} {S : PS} {a0 : Nat} {x1 x2 x3 x4 x5 x6 xs0 : Int} (kt : xs0 ≠ 0 → Ev d mX12_laysPiece (263, [some (vR (some (22, 0, a0))), some (vI x1), some (vI x2), some (vI x3), some (vI x4), some (vI x5), some (vI x6)], [], (I, S)) r) (kf : xs0 = 0 → Ev d mX12_laysPiece (260, [some (vR (some (22, 0, a0))), some (vI x1), some (vI x2), some (vI x3), some (vI x4), some (vI x5), some (vI x6)], [], (I, S)) r) : Ev d mX12_laysPiece (257, [some (vR (some (22, 0, a0))), some (vI x1), some (vI x2), some (vI x3), some (vI x4), some (vI x5), some (vI x6)], [vI xs0], (I, S)) r :=
  s_if_ne 263 rfl rfl kt kf
theorem b_X12_laysPiece_260 {d : Nat} {r : PO × PM} {I : Nat → Nat → Int} {S : PS} {a0 : Nat} {x1 x2 x3 x4 x5 x6 : Int} (k : Ev d mX12_laysPiece (280, [some (vR (some (22, 0, a0))), some (vI x1), some (vI x2), some (vI x3), some (vI x4), some (vI x5), some (vI x6)], [], (I, S)) r) : Ev d mX12_laysPiece (260, [some (vR (some (22, 0, a0))), some (vI x1), some (vI x2), some (vI x3), some (vI x4), some (vI x5), some (vI x6)], [], (I, S)) r :=
  s_goto 280 rfl rfl k
theorem b_X12_laysPiece_263 {d : Nat} {r : PO × PM} {I : Nat → Nat → Int} {S : PS} {a0 p1 q1 : Nat} {x1 x2 x3 x4 x5 x6 : Int} (hr1 : S.1 a0 31 = some (0, q1, p1)) (ho2 : -2147483648 ≤ 96 * x1 ∧ 96 * x1 ≤ 2147483647) (ho3 : -2147483648 ≤ (96 * x1) + x6 ∧ (96 * x1) + x6 ≤ 2147483647) (hi4 : 0 ≤ (96 * x1) + x6 ∧ (96 * x1) + x6 < (q1 : Nat)) (k : Ev d mX12_laysPiece (280, [some (vR (some (22, 0, a0))), some (vI x1), some (vI x2), some (vI x3), some (vI 1), some (vI x5), some (vI x6)], [], ((up2 I p1 (((96 * x1) + x6).toNat) x5), S)) r) : Ev d mX12_laysPiece (263, [some (vR (some (22, 0, a0))), some (vI x1), some (vI x2), some (vI x3), some (vI x4), some (vI x5), some (vI x6)], [], (I, S)) r :=
  s_aload_n rfl rfl rfl <|
  s_getR rfl rfl rfl hr1 <|
  s_bipush rfl rfl <|
  s_iload_n rfl rfl rfl <|
  s_imulp rfl ho2 <|
  s_iload rfl rfl rfl <|
  s_iaddp rfl ho3 <|
  s_iload rfl rfl rfl <|
  s_iast rfl hi4 <|
  s_iconst rfl rfl <|
  s_istore [some (vR (some (22, 0, a0))), some (vI x1), some (vI x2), some (vI x3), some (vI 1), some (vI x5), some (vI x6)] rfl rfl <|
  k
theorem b_X12_laysPiece_280 {d : Nat} {r : PO × PM} {I : Nat → Nat → Int} {S : PS} {a0 : Nat} {x1 x2 x3 x4 x5 x6 : Int} (ho1 : -2147483648 ≤ x6 + 1 ∧ x6 + 1 ≤ 2147483647) (k : Ev d mX12_laysPiece (226, [some (vR (some (22, 0, a0))), some (vI x1), some (vI x2), some (vI x3), some (vI x4), some (vI x5), some (vI (x6 + 1))], [], (I, S)) r) : Ev d mX12_laysPiece (280, [some (vR (some (22, 0, a0))), some (vI x1), some (vI x2), some (vI x3), some (vI x4), some (vI x5), some (vI x6)], [], (I, S)) r :=
  s_iincp [some (vR (some (22, 0, a0))), some (vI x1), some (vI x2), some (vI x3), some (vI x4), some (vI x5), some (vI (x6 + 1))] rfl rfl ho1 rfl <|
  s_goto 226 rfl rfl k
theorem b_X12_laysPiece_286 {d : Nat} {r : PO × PM} {I : Nat → Nat → Int} {S : PS} {a0 : Nat} {x1 x2 x3 x4 x5 x6 : Int} (ho1 : -2147483648 ≤ x5 + 1 ∧ x5 + 1 ≤ 2147483647) (k : Ev d mX12_laysPiece (215, [some (vR (some (22, 0, a0))), some (vI x1), some (vI x2), some (vI x3), some (vI x4), some (vI (x5 + 1)), none], [], (I, S)) r) : Ev d mX12_laysPiece (286, [some (vR (some (22, 0, a0))), some (vI x1), some (vI x2), some (vI x3), some (vI x4), some (vI x5), some (vI x6)], [], (I, S)) r :=
  s_iincp [some (vR (some (22, 0, a0))), some (vI x1), some (vI x2), some (vI x3), some (vI x4), some (vI (x5 + 1)), some (vI x6)] rfl rfl ho1 rfl <|
  s_goto 215 rfl rfl (ev_forget [false, false, false, false, false, false, true] rfl k)
theorem b_X12_laysPiece_292 {d : Nat} {I : Nat → Nat → Int} {S : PS} {a0 : Nat} {x1 x2 x3 x4 x5 : Int} : Ev d mX12_laysPiece (292, [some (vR (some (22, 0, a0))), some (vI x1), some (vI x2), some (vI x3), some (vI x4), some (vI x5), none], [], (I, S)) (.inl none, (I, S)) :=
  s_vret rfl rfl
theorem b_X12_isFirst_0 {d : Nat} {r : PO × PM} {I : Nat → Nat → Int} {S : PS} {x0 x1 : Int} (kt : x0 = 0 → Ev d mX12_isFirst (11, [some (vI x0), some (vI x1)], [], (I, S)) r) (kf : x0 ≠ 0 → Ev d mX12_isFirst (4, [some (vI x0), some (vI x1)], [], (I, S)) r) : Ev d mX12_isFirst (0, [some (vI x0), some (vI x1)], [], (I, S)) r :=
  s_iload_n rfl rfl rfl <|
  s_if_eq 11 rfl rfl kt kf
theorem b_X12_isFirst_4 {d : Nat} {r : PO × PM} {I : Nat → Nat → Int} {S : PS} {x0 x1 : Int} (ho1 : -2147483648 ≤ x1 + 1 ∧ x1 + 1 ≤ 2147483647) (kt : x0 ≠ x1 + 1 → Ev d mX12_isFirst (15, [some (vI x0), some (vI x1)], [], (I, S)) r) (kf : x0 = x1 + 1 → Ev d mX12_isFirst (11, [some (vI x0), some (vI x1)], [], (I, S)) r) : Ev d mX12_isFirst (4, [some (vI x0), some (vI x1)], [], (I, S)) r :=
  s_iload_n rfl rfl rfl <|
  s_iload_n rfl rfl rfl <|
  s_iconst rfl rfl <|
  s_iaddp rfl ho1 <|
  s_icmp_ne 15 rfl rfl kt kf
theorem b_X12_isFirst_11 {d : Nat} {r : PO × PM} {I : Nat → Nat → Int} {S : PS} {x0 x1 : Int} (k : Ev d mX12_isFirst (16, [some (vI x0), some (vI x1)], [vI 1], (I, S)) r) : Ev d mX12_isFirst (11, [some (vI x0), some (vI x1)], [], (I, S)) r :=
  s_iconst rfl rfl <|
  s_goto 16 rfl rfl k
theorem b_X12_isFirst_15 {d : Nat} {r : PO × PM} {I : Nat → Nat → Int} {S : PS} {x0 x1 : Int} (k : Ev d mX12_isFirst (16, [some (vI x0), some (vI x1)], [vI 0], (I, S)) r) : Ev d mX12_isFirst (15, [some (vI x0), some (vI x1)], [], (I, S)) r :=
  s_iconst rfl rfl <|
  k
theorem b_X12_isFirst_16 {d : Nat} {I : Nat → Nat → Int} {S : PS} {x0 x1 xs0 : Int} (hb1 : xs0 = 0 ∨ xs0 = 1) : Ev d mX12_isFirst (16, [some (vI x0), some (vI x1)], [vI xs0], (I, S)) (.inl (some (vI xs0)), (I, S)) :=
  s_retz rfl rfl hb1
theorem b_X12_laysRuns_0 {d : Nat} {r : PO × PM} {I : Nat → Nat → Int} {S : PS} {a0 : Nat} {x1 x2 x3 : Int} (k : Ev d mX12_laysRuns (8, [some (vR (some (22, 0, a0))), some (vI x1), some (vI x2), some (vI x3), some (vI 0)], [], ((up2 I a0 37 0), S)) r) : Ev d mX12_laysRuns (0, [some (vR (some (22, 0, a0))), some (vI x1), some (vI x2), some (vI x3), none], [], (I, S)) r :=
  s_aload_n rfl rfl rfl <|
  s_iconst rfl rfl <|
  s_putI rfl rfl rfl <|
  s_iconst rfl rfl <|
  s_istore [some (vR (some (22, 0, a0))), some (vI x1), some (vI x2), some (vI x3), some (vI 0)] rfl rfl <|
  k
theorem b_X12_laysRuns_8 {d : Nat} {r : PO × PM} {I : Nat → Nat → Int} {S : PS} {a0 : Nat} {x1 x2 x3 x4 z : Int} {I1 : Nat → Nat → Int} {S1 : PS} (c : Ca d mX12_ring [vR (some (22, 0, a0)), vI x1] (I, S) (.inl (some (vI z))) (I1, S1)) (k : Ev (d + 1) mX12_laysRuns (15, [some (vR (some (22, 0, a0))), some (vI x1), some (vI x2), some (vI x3), some (vI x4)], [vI z, vI x4], (I1, S1)) r) : Ev (d + 1) mX12_laysRuns (8, [some (vR (some (22, 0, a0))), some (vI x1), some (vI x2), some (vI x3), some (vI x4)], [], (I, S)) r :=
  s_iload rfl rfl rfl <|
  s_aload_n rfl rfl rfl <|
  s_iload_n rfl rfl rfl <|
  s_cvI rfl rfl rfl rfl rfl c k
theorem b_X12_laysRuns_15 {d : Nat} {r : PO × PM} {I : Nat → Nat → Int} {S : PS} {a0 : Nat} {x1 x2 x3 x4 xs0 xs1 : Int} (kt : xs1 ≤ xs0 → Ev d mX12_laysRuns (79, [some (vR (some (22, 0, a0))), some (vI x1), some (vI x2), some (vI x3), some (vI x4)], [], (I, S)) r) (kf : xs0 < xs1 → Ev d mX12_laysRuns (18, [some (vR (some (22, 0, a0))), some (vI x1), some (vI x2), some (vI x3), some (vI x4)], [], (I, S)) r) : Ev d mX12_laysRuns (15, [some (vR (some (22, 0, a0))), some (vI x1), some (vI x2), some (vI x3), some (vI x4)], [vI xs1, vI xs0], (I, S)) r :=
  s_icmp_ge 79 rfl rfl kt kf
theorem b_X12_laysRuns_18 {d : Nat} {r : PO × PM} {I : Nat → Nat → Int} {S : PS} {a0 : Nat} {x1 x2 x3 x4 : Int} (kt : x4 ≤ 0 → Ev d mX12_laysRuns (62, [some (vR (some (22, 0, a0))), some (vI x1), some (vI x2), some (vI x3), some (vI x4)], [], (I, S)) r) (kf : 0 < x4 → Ev d mX12_laysRuns (23, [some (vR (some (22, 0, a0))), some (vI x1), some (vI x2), some (vI x3), some (vI x4)], [], (I, S)) r) : Ev d mX12_laysRuns (18, [some (vR (some (22, 0, a0))), some (vI x1), some (vI x2), some (vI x3), some (vI x4)], [], (I, S)) r :=
  s_iload rfl rfl rfl <|
  s_if_le 62 rfl rfl kt kf
theorem b_X12_laysRuns_23 {d : Nat} {r : PO × PM} {I : Nat → Nat → Int} {S : PS} {a0 : Nat} {x1 x2 x3 x4 z : Int} {I1 : Nat → Nat → Int} {S1 : PS} (c : Ca d mX12_colourAt [vR (some (22, 0, a0)), vI x1, vI x2, vI x4] (I, S) (.inl (some (vI z))) (I1, S1)) (k : Ev (d + 1) mX12_laysRuns (31, [some (vR (some (22, 0, a0))), some (vI x1), some (vI x2), some (vI x3), some (vI x4)], [vI z], (I1, S1)) r) : Ev (d + 1) mX12_laysRuns (23, [some (vR (some (22, 0, a0))), some (vI x1), some (vI x2), some (vI x3), some (vI x4)], [], (I, S)) r :=
  s_aload_n rfl rfl rfl <|
  s_iload_n rfl rfl rfl <|
  s_iload_n rfl rfl rfl <|
  s_iload rfl rfl rfl <|
  s_cvI rfl rfl rfl rfl rfl c k
theorem b_X12_laysRuns_31 {d : Nat} {r : PO × PM} {I : Nat → Nat → Int} {S : PS} {a0 : Nat} {x1 x2 x3 x4 xs0 z : Int} {I1 : Nat → Nat → Int} {S1 : PS} (c : Ca d mX12_isFirst [vI xs0, vI x3] (I, S) (.inl (some (vI z))) (I1, S1)) (k : Ev (d + 1) mX12_laysRuns (35, [some (vR (some (22, 0, a0))), some (vI x1), some (vI x2), some (vI x3), some (vI x4)], [vI z], (I1, S1)) r) : Ev (d + 1) mX12_laysRuns (31, [some (vR (some (22, 0, a0))), some (vI x1), some (vI x2), some (vI x3), some (vI x4)], [vI xs0], (I, S)) r :=
  s_iload_n rfl rfl rfl <|
  s_csI rfl rfl rfl rfl rfl rfl c k
theorem b_X12_laysRuns_35 {d : Nat} {r : PO × PM} {I : Nat → Nat → Int} {S : PS} {a0 : Nat} {x1 x2 x3 x4 xs0 z : Int} {I1 : Nat → Nat → Int} {S1 : PS} (ho1 : -2147483648 ≤ x4 - 1 ∧ x4 - 1 ≤ 2147483647) (c : Ca d mX12_colourAt [vR (some (22, 0, a0)), vI x1, vI x2, vI (x4 - 1)] (I, S) (.inl (some (vI z))) (I1, S1)) (k : Ev (d + 1) mX12_laysRuns (45, [some (vR (some (22, 0, a0))), some (vI x1), some (vI x2), some (vI x3), some (vI x4)], [vI z, vI xs0], (I1, S1)) r) : Ev (d + 1) mX12_laysRuns (35, [some (vR (some (22, 0, a0))), some (vI x1), some (vI x2), some (vI x3), some (vI x4)], [vI xs0], (I, S)) r :=
  s_aload_n rfl rfl rfl <|
  s_iload_n rfl rfl rfl <|
  s_iload_n rfl rfl rfl <|
  s_iload rfl rfl rfl <|
  s_iconst rfl rfl <|
  s_isubp rfl ho1 <|
  s_cvI rfl rfl rfl rfl rfl c k
theorem b_X12_laysRuns_45 {d : Nat} {r : PO × PM} {I : Nat → Nat → Int} {S : PS} {a0 : Nat} {x1 x2 x3 x4 xs0 xs1 z : Int} {I1 : Nat → Nat → Int} {S1 : PS} (c : Ca d mX12_isFirst [vI xs1, vI x3] (I, S) (.inl (some (vI z))) (I1, S1)) (k : Ev (d + 1) mX12_laysRuns (49, [some (vR (some (22, 0, a0))), some (vI x1), some (vI x2), some (vI x3), some (vI x4)], [vI z, vI xs0], (I1, S1)) r) : Ev (d + 1) mX12_laysRuns (45, [some (vR (some (22, 0, a0))), some (vI x1), some (vI x2), some (vI x3), some (vI x4)], [vI xs1, vI xs0], (I, S)) r :=
  s_iload_n rfl rfl rfl <|
  s_csI rfl rfl rfl rfl rfl rfl c k
theorem b_X12_laysRuns_49 {d : Nat} {r : PO × PM} {I : Nat → Nat → Int} {S : PS} {a0 : Nat} {x1 x2 x3 x4 xs0 xs1 : Int} (kt : xs0 = xs1 → Ev d mX12_laysRuns (62, [some (vR (some (22, 0, a0))), some (vI x1), some (vI x2), some (vI x3), some (vI x4)], [], (I, S)) r) (kf : xs0 ≠ xs1 → Ev d mX12_laysRuns (52, [some (vR (some (22, 0, a0))), some (vI x1), some (vI x2), some (vI x3), some (vI x4)], [], (I, S)) r) : Ev d mX12_laysRuns (49, [some (vR (some (22, 0, a0))), some (vI x1), some (vI x2), some (vI x3), some (vI x4)], [vI xs1, vI xs0], (I, S)) r :=
  s_icmp_eq 62 rfl rfl kt kf
theorem b_X12_laysRuns_52 {d : Nat} {r : PO × PM} {I : Nat → Nat → Int} {S : PS} {a0 : Nat} {x1 x2 x3 x4 : Int} (ho1 : -2147483648 ≤ I a0 37 + 1 ∧ I a0 37 + 1 ≤ 2147483647) (k : Ev d mX12_laysRuns (62, [some (vR (some (22, 0, a0))), some (vI x1), some (vI x2), some (vI x3), some (vI x4)], [], ((up2 I a0 37 (I a0 37 + 1)), S)) r) : Ev d mX12_laysRuns (52, [some (vR (some (22, 0, a0))), some (vI x1), some (vI x2), some (vI x3), some (vI x4)], [], (I, S)) r :=
  s_aload_n rfl rfl rfl <|
  s_dup rfl rfl <|
  s_getI rfl rfl rfl <|
  s_iconst rfl rfl <|
  s_iaddp rfl ho1 <|
  s_putI rfl rfl rfl <|
  k
theorem b_X12_laysRuns_62 {d : Nat} {r : PO × PM} {I : Nat → Nat → Int} {S : PS} {a0 p1 q1 : Nat} {x1 x2 x3 x4 : Int} (hr1 : S.1 a0 35 = some (0, q1, p1)) (hi2 : 0 ≤ x4 ∧ x4 < (q1 : Nat)) (ho3 : -2147483648 ≤ x4 + 1 ∧ x4 + 1 ≤ 2147483647) (k : Ev d mX12_laysRuns (8, [some (vR (some (22, 0, a0))), some (vI x1), some (vI x2), some (vI x3), some (vI (x4 + 1))], [], ((up2 I p1 (x4.toNat) (I a0 37)), S)) r) : Ev d mX12_laysRuns (62, [some (vR (some (22, 0, a0))), some (vI x1), some (vI x2), some (vI x3), some (vI x4)], [], (I, S)) r :=
  s_aload_n rfl rfl rfl <|
  s_getR rfl rfl rfl hr1 <|
  s_iload rfl rfl rfl <|
  s_aload_n rfl rfl rfl <|
  s_getI rfl rfl rfl <|
  s_iast rfl hi2 <|
  s_iincp [some (vR (some (22, 0, a0))), some (vI x1), some (vI x2), some (vI x3), some (vI (x4 + 1))] rfl rfl ho3 rfl <|
  s_goto 8 rfl rfl k
theorem b_X12_laysRuns_79 {d : Nat} {r : PO × PM} {I : Nat → Nat → Int} {S : PS} {a0 : Nat} {x1 x2 x3 x4 : Int} (ho1 : -2147483648 ≤ I a0 37 + 1 ∧ I a0 37 + 1 ≤ 2147483647) (kt : (up2 I a0 37 (I a0 37 + 1)) a0 37 ≤ 1 → Ev d mX12_laysRuns (165, [some (vR (some (22, 0, a0))), some (vI x1), some (vI x2), some (vI x3), some (vI x4)], [], ((up2 I a0 37 (I a0 37 + 1)), S)) r) (kf : 1 < (up2 I a0 37 (I a0 37 + 1)) a0 37 → Ev d mX12_laysRuns (97, [some (vR (some (22, 0, a0))), some (vI x1), some (vI x2), some (vI x3), some (vI x4)], [], ((up2 I a0 37 (I a0 37 + 1)), S)) r) : Ev d mX12_laysRuns (79, [some (vR (some (22, 0, a0))), some (vI x1), some (vI x2), some (vI x3), some (vI x4)], [], (I, S)) r :=
  s_aload_n rfl rfl rfl <|
  s_dup rfl rfl <|
  s_getI rfl rfl rfl <|
  s_iconst rfl rfl <|
  s_iaddp rfl ho1 <|
  s_putI rfl rfl rfl <|
  s_aload_n rfl rfl rfl <|
  s_getI rfl rfl rfl <|
  s_iconst rfl rfl <|
  s_icmp_le 165 rfl rfl kt kf
theorem b_X12_laysRuns_97 {d : Nat} {r : PO × PM} {I : Nat → Nat → Int} {S : PS} {a0 : Nat} {x1 x2 x3 x4 z : Int} {I1 : Nat → Nat → Int} {S1 : PS} (c : Ca d mX12_ring [vR (some (22, 0, a0)), vI x1] (I, S) (.inl (some (vI z))) (I1, S1)) (k : Ev (d + 1) mX12_laysRuns (105, [some (vR (some (22, 0, a0))), some (vI x1), some (vI x2), some (vI x3), some (vI x4)], [vI z, vI x2, vI x1, vR (some (22, 0, a0))], (I1, S1)) r) : Ev (d + 1) mX12_laysRuns (97, [some (vR (some (22, 0, a0))), some (vI x1), some (vI x2), some (vI x3), some (vI x4)], [], (I, S)) r :=
  s_aload_n rfl rfl rfl <|
  s_iload_n rfl rfl rfl <|
  s_iload_n rfl rfl rfl <|
  s_aload_n rfl rfl rfl <|
  s_iload_n rfl rfl rfl <|
  s_cvI rfl rfl rfl rfl rfl c k
theorem b_X12_laysRuns_105 {d : Nat} {r : PO × PM} {I : Nat → Nat → Int} {S : PS} {a0 as0 : Nat} {x1 x2 x3 x4 xs1 xs2 xs3 z : Int} {I1 : Nat → Nat → Int} {S1 : PS} (ho1 : -2147483648 ≤ xs3 - 1 ∧ xs3 - 1 ≤ 2147483647) (c : Ca d mX12_colourAt [vR (some (22, 0, as0)), vI xs1, vI xs2, vI (xs3 - 1)] (I, S) (.inl (some (vI z))) (I1, S1)) (k : Ev (d + 1) mX12_laysRuns (110, [some (vR (some (22, 0, a0))), some (vI x1), some (vI x2), some (vI x3), some (vI x4)], [vI z], (I1, S1)) r) : Ev (d + 1) mX12_laysRuns (105, [some (vR (some (22, 0, a0))), some (vI x1), some (vI x2), some (vI x3), some (vI x4)], [vI xs3, vI xs2, vI xs1, vR (some (22, 0, as0))], (I, S)) r :=
  s_iconst rfl rfl <|
  s_isubp rfl ho1 <|
  s_cvI rfl rfl rfl rfl rfl c k
theorem b_X12_laysRuns_110 {d : Nat} {r : PO × PM} {I : Nat → Nat → Int} {S : PS} {a0 : Nat} {x1 x2 x3 x4 xs0 z : Int} {I1 : Nat → Nat → Int} {S1 : PS} (c : Ca d mX12_isFirst [vI xs0, vI x3] (I, S) (.inl (some (vI z))) (I1, S1)) (k : Ev (d + 1) mX12_laysRuns (114, [some (vR (some (22, 0, a0))), some (vI x1), some (vI x2), some (vI x3), some (vI x4)], [vI z], (I1, S1)) r) : Ev (d + 1) mX12_laysRuns (110, [some (vR (some (22, 0, a0))), some (vI x1), some (vI x2), some (vI x3), some (vI x4)], [vI xs0], (I, S)) r :=
  s_iload_n rfl rfl rfl <|
  s_csI rfl rfl rfl rfl rfl rfl c k
theorem b_X12_laysRuns_114 {d : Nat} {r : PO × PM} {I : Nat → Nat → Int} {S : PS} {a0 : Nat} {x1 x2 x3 x4 xs0 : Int} (kt : xs0 = 0 → Ev d mX12_laysRuns (165, [some (vR (some (22, 0, a0))), some (vI x1), some (vI x2), some (vI x3), some (vI x4)], [], (I, S)) r) (kf : xs0 ≠ 0 → Ev d mX12_laysRuns (117, [some (vR (some (22, 0, a0))), some (vI x1), some (vI x2), some (vI x3), some (vI x4)], [], (I, S)) r) : Ev d mX12_laysRuns (114, [some (vR (some (22, 0, a0))), some (vI x1), some (vI x2), some (vI x3), some (vI x4)], [vI xs0], (I, S)) r :=
  s_if_eq 165 rfl rfl kt kf
theorem b_X12_laysRuns_117 {d : Nat} {r : PO × PM} {I : Nat → Nat → Int} {S : PS} {a0 : Nat} {x1 x2 x3 x4 : Int} (ho1 : -2147483648 ≤ I a0 37 - 1 ∧ I a0 37 - 1 ≤ 2147483647) (k : Ev d mX12_laysRuns (130, [some (vR (some (22, 0, a0))), some (vI x1), some (vI x2), some (vI x3), some (vI 0)], [], ((up2 I a0 37 (I a0 37 - 1)), S)) r) : Ev d mX12_laysRuns (117, [some (vR (some (22, 0, a0))), some (vI x1), some (vI x2), some (vI x3), some (vI x4)], [], (I, S)) r :=
  s_aload_n rfl rfl rfl <|
  s_dup rfl rfl <|
  s_getI rfl rfl rfl <|
  s_iconst rfl rfl <|
  s_isubp rfl ho1 <|
  s_putI rfl rfl rfl <|
  s_iconst rfl rfl <|
  s_istore [some (vR (some (22, 0, a0))), some (vI x1), some (vI x2), some (vI x3), some (vI 0)] rfl rfl <|
  k
theorem b_X12_laysRuns_130 {d : Nat} {r : PO × PM} {I : Nat → Nat → Int} {S : PS} {a0 : Nat} {x1 x2 x3 x4 z : Int} {I1 : Nat → Nat → Int} {S1 : PS} (c : Ca d mX12_ring [vR (some (22, 0, a0)), vI x1] (I, S) (.inl (some (vI z))) (I1, S1)) (k : Ev (d + 1) mX12_laysRuns (137, [some (vR (some (22, 0, a0))), some (vI x1), some (vI x2), some (vI x3), some (vI x4)], [vI z, vI x4], (I1, S1)) r) : Ev (d + 1) mX12_laysRuns (130, [some (vR (some (22, 0, a0))), some (vI x1), some (vI x2), some (vI x3), some (vI x4)], [], (I, S)) r :=
  s_iload rfl rfl rfl <|
  s_aload_n rfl rfl rfl <|
  s_iload_n rfl rfl rfl <|
  s_cvI rfl rfl rfl rfl rfl c k
theorem b_X12_laysRuns_137 {d : Nat} {r : PO × PM} {I : Nat → Nat → Int} {S : PS} {a0 : Nat} {x1 x2 x3 x4 xs0 xs1 : Int} (kt : xs1 ≤ xs0 → Ev d mX12_laysRuns (165, [some (vR (some (22, 0, a0))), some (vI x1), some (vI x2), some (vI x3), some (vI x4)], [], (I, S)) r) (kf : xs0 < xs1 → Ev d mX12_laysRuns (140, [some (vR (some (22, 0, a0))), some (vI x1), some (vI x2), some (vI x3), some (vI x4)], [], (I, S)) r) : Ev d mX12_laysRuns (137, [some (vR (some (22, 0, a0))), some (vI x1), some (vI x2), some (vI x3), some (vI x4)], [vI xs1, vI xs0], (I, S)) r :=
  s_icmp_ge 165 rfl rfl kt kf
theorem b_X12_laysRuns_140 {d : Nat} {r : PO × PM} {I : Nat → Nat → Int} {S : PS} {a0 p1 q1 : Nat} {x1 x2 x3 x4 : Int} (hr1 : S.1 a0 35 = some (0, q1, p1)) (hi2 : 0 ≤ x4 ∧ x4 < (q1 : Nat)) (hd3 : (0 ≤ I p1 x4.toNat ∧ I p1 x4.toNat ≤ 2147483647) ∧ 0 < I a0 37 ∧ I a0 37 ≤ 2147483647) (hi4 : 0 ≤ x4 ∧ x4 < (q1 : Nat)) (ho5 : -2147483648 ≤ x4 + 1 ∧ x4 + 1 ≤ 2147483647) (k : Ev d mX12_laysRuns (130, [some (vR (some (22, 0, a0))), some (vI x1), some (vI x2), some (vI x3), some (vI (x4 + 1))], [], ((up2 I p1 (x4.toNat) ((I p1 x4.toNat) % (I a0 37))), S)) r) : Ev d mX12_laysRuns (140, [some (vR (some (22, 0, a0))), some (vI x1), some (vI x2), some (vI x3), some (vI x4)], [], (I, S)) r :=
  s_aload_n rfl rfl rfl <|
  s_getR rfl rfl rfl hr1 <|
  s_iload rfl rfl rfl <|
  s_aload_n rfl rfl rfl <|
  s_getR rfl rfl rfl hr1 <|
  s_iload rfl rfl rfl <|
  s_iald rfl rfl hi2 <|
  s_aload_n rfl rfl rfl <|
  s_getI rfl rfl rfl <|
  s_iremp rfl hd3 <|
  s_iast rfl hi4 <|
  s_iincp [some (vR (some (22, 0, a0))), some (vI x1), some (vI x2), some (vI x3), some (vI (x4 + 1))] rfl rfl ho5 rfl <|
  s_goto 130 rfl rfl k
theorem b_X12_laysRuns_165 {d : Nat} {I : Nat → Nat → Int} {S : PS} {a0 : Nat} {x1 x2 x3 x4 : Int} : Ev d mX12_laysRuns (165, [some (vR (some (22, 0, a0))), some (vI x1), some (vI x2), some (vI x3), some (vI x4)], [], (I, S)) (.inl none, (I, S)) :=
  s_vret rfl rfl
theorem b_X12_otherOf_0 {d : Nat} {r : PO × PM} {I : Nat → Nat → Int} {S : PS} {x0 x1 : Int} (kt : x0 ≠ 0 → Ev d mX12_otherOf (8, [some (vI x0), some (vI x1)], [], (I, S)) r) (kf : x0 = 0 → Ev d mX12_otherOf (4, [some (vI x0), some (vI x1)], [], (I, S)) r) : Ev d mX12_otherOf (0, [some (vI x0), some (vI x1)], [], (I, S)) r :=
  s_iload_n rfl rfl rfl <|
  s_if_ne 8 rfl rfl kt kf
theorem b_X12_otherOf_4 {d : Nat} {I : Nat → Nat → Int} {S : PS} {x0 x1 : Int} (ho1 : -2147483648 ≤ x1 + 1 ∧ x1 + 1 ≤ 2147483647) : Ev d mX12_otherOf (4, [some (vI x0), some (vI x1)], [], (I, S)) (.inl (some (vI (x1 + 1))), (I, S)) :=
  s_iload_n rfl rfl rfl <|
  s_iconst rfl rfl <|
  s_iaddp rfl ho1 <|
  s_ret rfl rfl
theorem b_X12_otherOf_8 {d : Nat} {r : PO × PM} {I : Nat → Nat → Int} {S : PS} {x0 x1 : Int} (ho1 : -2147483648 ≤ x1 + 1 ∧ x1 + 1 ≤ 2147483647) (kt : x0 ≠ x1 + 1 → Ev d mX12_otherOf (17, [some (vI x0), some (vI x1)], [], (I, S)) r) (kf : x0 = x1 + 1 → Ev d mX12_otherOf (15, [some (vI x0), some (vI x1)], [], (I, S)) r) : Ev d mX12_otherOf (8, [some (vI x0), some (vI x1)], [], (I, S)) r :=
  s_iload_n rfl rfl rfl <|
  s_iload_n rfl rfl rfl <|
  s_iconst rfl rfl <|
  s_iaddp rfl ho1 <|
  s_icmp_ne 17 rfl rfl kt kf
theorem b_X12_otherOf_15 {d : Nat} {I : Nat → Nat → Int} {S : PS} {x0 x1 : Int} : Ev d mX12_otherOf (15, [some (vI x0), some (vI x1)], [], (I, S)) (.inl (some (vI 0)), (I, S)) :=
  s_iconst rfl rfl <|
  s_ret rfl rfl
theorem b_X12_otherOf_17 {d : Nat} {I : Nat → Nat → Int} {S : PS} {x0 x1 : Int} (ho1 : -2147483648 ≤ 6 - x1 ∧ 6 - x1 ≤ 2147483647) (ho2 : -2147483648 ≤ 6 - x1 - 1 ∧ 6 - x1 - 1 ≤ 2147483647) (ho3 : -2147483648 ≤ 6 - x1 - 1 - x0 ∧ 6 - x1 - 1 - x0 ≤ 2147483647) : Ev d mX12_otherOf (17, [some (vI x0), some (vI x1)], [], (I, S)) (.inl (some (vI (6 - x1 - 1 - x0))), (I, S)) :=
  s_bipush rfl rfl <|
  s_iload_n rfl rfl rfl <|
  s_isubp rfl ho1 <|
  s_iconst rfl rfl <|
  s_isubp rfl ho2 <|
  s_iload_n rfl rfl rfl <|
  s_isubp rfl ho3 <|
  s_ret rfl rfl
theorem b_X12_switched0_0 {d : Nat} {r : PO × PM} {I : Nat → Nat → Int} {S : PS} {a0 : Nat} {x1 x2 x3 x4 : Int} (k : Ev d mX12_switched0 (6, [some (vR (some (22, 0, a0))), some (vI x1), some (vI x2), some (vI x3), some (vI x4), some (vI 0), some (vI 0), none], [], (I, S)) r) : Ev d mX12_switched0 (0, [some (vR (some (22, 0, a0))), some (vI x1), some (vI x2), some (vI x3), some (vI x4), none, none, none], [], (I, S)) r :=
  s_iconst rfl rfl <|
  s_istore [some (vR (some (22, 0, a0))), some (vI x1), some (vI x2), some (vI x3), some (vI x4), some (vI 0), none, none] rfl rfl <|
  s_iconst rfl rfl <|
  s_istore [some (vR (some (22, 0, a0))), some (vI x1), some (vI x2), some (vI x3), some (vI x4), some (vI 0), some (vI 0), none] rfl rfl <|
  k
theorem b_X12_switched0_6 {d : Nat} {r : PO × PM} {I : Nat → Nat → Int} {S : PS} {a0 : Nat} {x1 x2 x3 x4 x5 x6 z : Int} {I1 : Nat → Nat → Int} {S1 : PS} (c : Ca d mX12_ring [vR (some (22, 0, a0)), vI x1] (I, S) (.inl (some (vI z))) (I1, S1)) (k : Ev (d + 1) mX12_switched0 (13, [some (vR (some (22, 0, a0))), some (vI x1), some (vI x2), some (vI x3), some (vI x4), some (vI x5), some (vI x6), none], [vI z, vI x6], (I1, S1)) r) : Ev (d + 1) mX12_switched0 (6, [some (vR (some (22, 0, a0))), some (vI x1), some (vI x2), some (vI x3), some (vI x4), some (vI x5), some (vI x6), none], [], (I, S)) r :=
  s_iload rfl rfl rfl <|
  s_aload_n rfl rfl rfl <|
  s_iload_n rfl rfl rfl <|
  s_cvI rfl rfl rfl rfl rfl c k
theorem b_X12_switched0_13 {d : Nat} {r : PO × PM} {I : Nat → Nat → Int} {S : PS} {a0 : Nat} {x1 x2 x3 x4 x5 x6 xs0 xs1 : Int} (kt : xs1 ≤ xs0 → Ev d mX12_switched0 (66, [some (vR (some (22, 0, a0))), some (vI x1), some (vI x2), some (vI x3), some (vI x4), some (vI x5), some (vI x6), none], [], (I, S)) r) (kf : xs0 < xs1 → Ev d mX12_switched0 (16, [some (vR (some (22, 0, a0))), some (vI x1), some (vI x2), some (vI x3), some (vI x4), some (vI x5), some (vI x6), none], [], (I, S)) r) : Ev d mX12_switched0 (13, [some (vR (some (22, 0, a0))), some (vI x1), some (vI x2), some (vI x3), some (vI x4), some (vI x5), some (vI x6), none], [vI xs1, vI xs0], (I, S)) r :=
  s_icmp_ge 66 rfl rfl kt kf
theorem b_X12_switched0_16 {d : Nat} {r : PO × PM} {I : Nat → Nat → Int} {S : PS} {a0 : Nat} {x1 x2 x3 x4 x5 x6 z : Int} {I1 : Nat → Nat → Int} {S1 : PS} (c : Ca d mX12_colourAt [vR (some (22, 0, a0)), vI x1, vI x2, vI x6] (I, S) (.inl (some (vI z))) (I1, S1)) (k : Ev (d + 1) mX12_switched0 (24, [some (vR (some (22, 0, a0))), some (vI x1), some (vI x2), some (vI x3), some (vI x4), some (vI x5), some (vI x6), none], [vI z], (I1, S1)) r) : Ev (d + 1) mX12_switched0 (16, [some (vR (some (22, 0, a0))), some (vI x1), some (vI x2), some (vI x3), some (vI x4), some (vI x5), some (vI x6), none], [], (I, S)) r :=
  s_aload_n rfl rfl rfl <|
  s_iload_n rfl rfl rfl <|
  s_iload_n rfl rfl rfl <|
  s_iload rfl rfl rfl <|
  s_cvI rfl rfl rfl rfl rfl c k
theorem b_X12_switched0_24 {d : Nat} {r : PO × PM} {I : Nat → Nat → Int} {S : PS} {a0 p1 q1 : Nat} {x1 x2 x3 x4 x5 x6 xs0 : Int} (hr1 : S.1 a0 35 = some (0, q1, p1)) (hi2 : 0 ≤ x6 ∧ x6 < (q1 : Nat)) (kt : p_and (p_shr x4 (I p1 x6.toNat)) 1 ≠ 1 → Ev d mX12_switched0 (55, [some (vR (some (22, 0, a0))), some (vI x1), some (vI x2), some (vI x3), some (vI x4), some (vI x5), some (vI x6), some (vI xs0)], [vI (p_shl x5 2)], (I, S)) r) (kf : p_and (p_shr x4 (I p1 x6.toNat)) 1 = 1 → Ev d mX12_switched0 (46, [some (vR (some (22, 0, a0))), some (vI x1), some (vI x2), some (vI x3), some (vI x4), some (vI x5), some (vI x6), some (vI xs0)], [vI (p_shl x5 2)], (I, S)) r) : Ev d mX12_switched0 (24, [some (vR (some (22, 0, a0))), some (vI x1), some (vI x2), some (vI x3), some (vI x4), some (vI x5), some (vI x6), none], [vI xs0], (I, S)) r :=
  s_istore [some (vR (some (22, 0, a0))), some (vI x1), some (vI x2), some (vI x3), some (vI x4), some (vI x5), some (vI x6), some (vI xs0)] rfl rfl <|
  s_iload rfl rfl rfl <|
  s_iconst rfl rfl <|
  s_ishl rfl <|
  s_iload rfl rfl rfl <|
  s_aload_n rfl rfl rfl <|
  s_getR rfl rfl rfl hr1 <|
  s_iload rfl rfl rfl <|
  s_iald rfl rfl hi2 <|
  s_ishr rfl <|
  s_iconst rfl rfl <|
  s_iand rfl <|
  s_iconst rfl rfl <|
  s_icmp_ne 55 rfl rfl kt kf
theorem b_X12_switched0_46 {d : Nat} {r : PO × PM} {I : Nat → Nat → Int} {S : PS} {a0 : Nat} {x1 x2 x3 x4 x5 x6 x7 xs0 z : Int} {I1 : Nat → Nat → Int} {S1 : PS} (c : Ca d mX12_otherOf [vI x7, vI x3] (I, S) (.inl (some (vI z))) (I1, S1)) (k : Ev (d + 1) mX12_switched0 (52, [some (vR (some (22, 0, a0))), some (vI x1), some (vI x2), some (vI x3), some (vI x4), some (vI x5), some (vI x6), some (vI x7)], [vI z, vI xs0], (I1, S1)) r) : Ev (d + 1) mX12_switched0 (46, [some (vR (some (22, 0, a0))), some (vI x1), some (vI x2), some (vI x3), some (vI x4), some (vI x5), some (vI x6), some (vI x7)], [vI xs0], (I, S)) r :=
  s_iload rfl rfl rfl <|
  s_iload_n rfl rfl rfl <|
  s_csI rfl rfl rfl rfl rfl rfl c k
theorem b_X12_switched0_52 {d : Nat} {r : PO × PM} {I : Nat → Nat → Int} {S : PS} {a0 : Nat} {x1 x2 x3 x4 x5 x6 x7 xs0 xs1 : Int} (k : Ev d mX12_switched0 (57, [some (vR (some (22, 0, a0))), some (vI x1), some (vI x2), some (vI x3), some (vI x4), some (vI x5), some (vI x6), some (vI x7)], [vI xs1, vI xs0], (I, S)) r) : Ev d mX12_switched0 (52, [some (vR (some (22, 0, a0))), some (vI x1), some (vI x2), some (vI x3), some (vI x4), some (vI x5), some (vI x6), some (vI x7)], [vI xs1, vI xs0], (I, S)) r :=
  s_goto 57 rfl rfl k
theorem b_X12_switched0_55 {d : Nat} {r : PO × PM} {I : Nat → Nat → Int} {S : PS} {a0 : Nat} {x1 x2 x3 x4 x5 x6 x7 xs0 : Int} (k : Ev d mX12_switched0 (57, [some (vR (some (22, 0, a0))), some (vI x1), some (vI x2), some (vI x3), some (vI x4), some (vI x5), some (vI x6), some (vI x7)], [vI x7, vI xs0], (I, S)) r) : Ev d mX12_switched0 (55, [some (vR (some (22, 0, a0))), some (vI x1), some (vI x2), some (vI x3), some (vI x4), some (vI x5), some (vI x6), some (vI x7)], [vI xs0], (I, S)) r :=
  s_iload rfl rfl rfl <|
  k
theorem b_X12_switched0_57 {d : Nat} {r : PO × PM} {I : Nat → Nat → Int} {S : PS} {a0 : Nat} {x1 x2 x3 x4 x5 x6 x7 xs0 xs1 : Int} (ho1 : -2147483648 ≤ x6 + 1 ∧ x6 + 1 ≤ 2147483647) (k : Ev d mX12_switched0 (6, [some (vR (some (22, 0, a0))), some (vI x1), some (vI x2), some (vI x3), some (vI x4), some (vI (p_or xs0 xs1)), some (vI (x6 + 1)), none], [], (I, S)) r) : Ev d mX12_switched0 (57, [some (vR (some (22, 0, a0))), some (vI x1), some (vI x2), some (vI x3), some (vI x4), some (vI x5), some (vI x6), some (vI x7)], [vI xs1, vI xs0], (I, S)) r :=
  s_ior rfl <|
  s_istore [some (vR (some (22, 0, a0))), some (vI x1), some (vI x2), some (vI x3), some (vI x4), some (vI (p_or xs0 xs1)), some (vI x6), some (vI x7)] rfl rfl <|
  s_iincp [some (vR (some (22, 0, a0))), some (vI x1), some (vI x2), some (vI x3), some (vI x4), some (vI (p_or xs0 xs1)), some (vI (x6 + 1)), some (vI x7)] rfl rfl ho1 rfl <|
  s_goto 6 rfl rfl (ev_forget [false, false, false, false, false, false, false, true] rfl k)
theorem b_X12_switched0_66 {d : Nat} {r : PO × PM} {I : Nat → Nat → Int} {S : PS} {a0 : Nat} {x1 x2 x3 x4 x5 x6 z : Int} {I1 : Nat → Nat → Int} {S1 : PS} (c : Ca d mX12_named0 [vR (some (22, 0, a0)), vI x1, vI x5] (I, S) (.inl (some (vI z))) (I1, S1)) (k : Ev (d + 1) mX12_switched0 (73, [some (vR (some (22, 0, a0))), some (vI x1), some (vI x2), some (vI x3), some (vI x4), some (vI x5), some (vI x6), none], [vI z], (I1, S1)) r) : Ev (d + 1) mX12_switched0 (66, [some (vR (some (22, 0, a0))), some (vI x1), some (vI x2), some (vI x3), some (vI x4), some (vI x5), some (vI x6), none], [], (I, S)) r :=
  s_aload_n rfl rfl rfl <|
  s_iload_n rfl rfl rfl <|
  s_iload rfl rfl rfl <|
  s_cvI rfl rfl rfl rfl rfl c k
theorem b_X12_switched0_73 {d : Nat} {I : Nat → Nat → Int} {S : PS} {a0 : Nat} {x1 x2 x3 x4 x5 x6 xs0 : Int} : Ev d mX12_switched0 (73, [some (vR (some (22, 0, a0))), some (vI x1), some (vI x2), some (vI x3), some (vI x4), some (vI x5), some (vI x6), none], [vI xs0], (I, S)) (.inl (some (vI xs0)), (I, S)) :=
  s_ret rfl rfl
end
