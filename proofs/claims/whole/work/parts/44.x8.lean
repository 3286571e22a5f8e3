noncomputable section
theorem b_X8_init_0 {d : Nat} {r : PO × PM} {h : PM} {a0 : Nat} {h1 : PM} (c : Ca d mX2_init [vR (some (13, 0, (m_sz h)))] (m_new h 13 0 1) (.inl none) h1) (k : Ev (d + 1) mX8_init (12, [some (vR (some (18, 0, a0)))], [vR (some (13, 0, (m_sz h))), vR (some (18, 0, a0))], h1) r) : Ev (d + 1) mX8_init (0, [some (vR (some (18, 0, a0)))], [], h) r :=
  s_aload_n rfl rfl rfl <|
  s_obj rfl rfl rfl <|
  s_aload_n rfl rfl rfl <|
  s_new rfl rfl <|
  s_dup rfl rfl <|
  s_ci rfl rfl rfl rfl rfl rfl c k
theorem b_X8_init_12 {d : Nat} {h : PM} {a0 as0 as1 : Nat} : Ev d mX8_init (12, [some (vR (some (18, 0, a0)))], [vR (some (13, 0, as1)), vR (some (18, 0, as0))], h) (.inl none, m_si (m_si (m_si (m_sr h as0 0 (some (13, 0, as1))) a0 1 (-1)) a0 2 (-1)) a0 3 (-1)) :=
  s_putR rfl rfl rfl <|
  s_aload_n rfl rfl rfl <|
  s_iconst rfl rfl <|
  s_putI rfl rfl rfl <|
  s_aload_n rfl rfl rfl <|
  s_iconst rfl rfl <|
  s_putI rfl rfl rfl <|
  s_aload_n rfl rfl rfl <|
  s_iconst rfl rfl <|
  s_putI rfl rfl rfl <|
  s_vret rfl rfl
theorem b_X8_begin_0 {d : Nat} {r : PO × PM} {I : Nat → Nat → Int} {S : PS} {a0 a1 p1 : Nat} {I1 : Nat → Nat → Int} {S1 : PS} (hr1 : S.1 a0 0 = some (13, 0, p1)) (c : Ca d mX2_copyFrom [vR (some (13, 0, p1)), vR (some (13, 0, a1))] (I, S) (.inl none) (I1, S1)) (k : Ev (d + 1) mX8_begin (8, [some (vR (some (18, 0, a0))), some (vR (some (13, 0, a1)))], [], (I1, S1)) r) : Ev (d + 1) mX8_begin (0, [some (vR (some (18, 0, a0))), some (vR (some (13, 0, a1)))], [], (I, S)) r :=
  s_aload_n rfl rfl rfl <|
  s_getR rfl rfl rfl hr1 <|
  s_aload_n rfl rfl rfl <|
  s_cvV rfl rfl rfl rfl rfl c k
theorem b_X8_begin_8 {d : Nat} {I : Nat → Nat → Int} {S : PS} {a0 a1 : Nat} : Ev d mX8_begin (8, [some (vR (some (18, 0, a0))), some (vR (some (13, 0, a1)))], [], (I, S)) (.inl none, (I, S)) :=
  s_vret rfl rfl
theorem b_X8_paintAll_0 {d : Nat} {r : PO × PM} {I : Nat → Nat → Int} {S : PS} {a0 a1 : Nat} {I1 : Nat → Nat → Int} {S1 : PS} {z : Int} (c : Ca d mX8_firstWay [vR (some (18, 0, a0)), vR (some (11, 0, a1)), vI 0] (I, S) (.inl (some (vI z))) (I1, S1)) (k : Ev (d + 1) mX8_paintAll (6, [some (vR (some (18, 0, a0))), some (vR (some (11, 0, a1)))], [vI z], (I1, S1)) r) : Ev (d + 1) mX8_paintAll (0, [some (vR (some (18, 0, a0))), some (vR (some (11, 0, a1)))], [], (I, S)) r :=
  s_aload_n rfl rfl rfl <|
  s_aload_n rfl rfl rfl <|
  s_iconst rfl rfl <|
  s_cvI rfl rfl rfl rfl rfl c k
theorem b_X8_paintAll_6 {d : Nat} {I : Nat → Nat → Int} {S : PS} {a0 a1 : Nat} {xs0 : Int} (hb1 : xs0 = 0 ∨ xs0 = 1) : Ev d mX8_paintAll (6, [some (vR (some (18, 0, a0))), some (vR (some (11, 0, a1)))], [vI xs0], (I, S)) (.inl (some (vI xs0)), (I, S)) :=
  s_retz rfl rfl hb1
theorem b_X8_allWays_0 {d : Nat} {r : PO × PM} {I : Nat → Nat → Int} {S : PS} {a0 a1 : Nat} {I1 : Nat → Nat → Int} {S1 : PS} {z : Int} (c : Ca d mX8_countWays [vR (some (18, 0, a0)), vR (some (11, 0, a1)), vI 0] (I, S) (.inl (some (vI z))) (I1, S1)) (k : Ev (d + 1) mX8_allWays (6, [some (vR (some (18, 0, a0))), some (vR (some (11, 0, a1)))], [vI z], (I1, S1)) r) : Ev (d + 1) mX8_allWays (0, [some (vR (some (18, 0, a0))), some (vR (some (11, 0, a1)))], [], (I, S)) r :=
  s_aload_n rfl rfl rfl <|
  s_aload_n rfl rfl rfl <|
  s_iconst rfl rfl <|
  s_cvI rfl rfl rfl rfl rfl c k
theorem b_X8_allWays_6 {d : Nat} {I : Nat → Nat → Int} {S : PS} {a0 a1 : Nat} {xs0 : Int} : Ev d mX8_allWays (6, [some (vR (some (18, 0, a0))), some (vR (some (11, 0, a1)))], [vI xs0], (I, S)) (.inl (some (vI xs0)), (I, S)) :=
  s_ret rfl rfl
theorem b_X8_firstWay_0 {d : Nat} {r : PO × PM} {I : Nat → Nat → Int} {S : PS} {a0 a1 : Nat} {x2 : Int} (kt : x2 < I a1 6 → Ev d mX8_firstWay (10, [some (vR (some (18, 0, a0))), some (vR (some (11, 0, a1))), some (vI x2), none], [], (I, S)) r) (kf : I a1 6 ≤ x2 → Ev d mX8_firstWay (8, [some (vR (some (18, 0, a0))), some (vR (some (11, 0, a1))), some (vI x2), none], [], (I, S)) r) : Ev d mX8_firstWay (0, [some (vR (some (18, 0, a0))), some (vR (some (11, 0, a1))), some (vI x2), none], [], (I, S)) r :=
  s_iload_n rfl rfl rfl <|
  s_aload_n rfl rfl rfl <|
  s_getI rfl rfl rfl <|
  s_icmp_lt 10 rfl rfl kt kf
theorem b_X8_firstWay_8 {d : Nat} {I : Nat → Nat → Int} {S : PS} {a0 a1 : Nat} {x2 : Int} : Ev d mX8_firstWay (8, [some (vR (some (18, 0, a0))), some (vR (some (11, 0, a1))), some (vI x2), none], [], (I, S)) (.inl (some (vI 1)), (I, S)) :=
  s_iconst rfl rfl <|
  s_ret rfl rfl
theorem b_X8_firstWay_10 {d : Nat} {r : PO × PM} {I : Nat → Nat → Int} {S : PS} {a0 a1 p1 : Nat} {x2 z : Int} {I1 : Nat → Nat → Int} {S1 : PS} (hr1 : S.1 a0 0 = some (13, 0, p1)) (c : Ca d mX2_isPainted [vR (some (13, 0, p1)), vI x2] (I, S) (.inl (some (vI z))) (I1, S1)) (k : Ev (d + 1) mX8_firstWay (18, [some (vR (some (18, 0, a0))), some (vR (some (11, 0, a1))), some (vI x2), none], [vI z], (I1, S1)) r) : Ev (d + 1) mX8_firstWay (10, [some (vR (some (18, 0, a0))), some (vR (some (11, 0, a1))), some (vI x2), none], [], (I, S)) r :=
  s_aload_n rfl rfl rfl <|
  s_getR rfl rfl rfl hr1 <|
  s_iload_n rfl rfl rfl <|
  s_cvI rfl rfl rfl rfl rfl c k
theorem b_X8_firstWay_18 {d : Nat} {r : PO × PM} {I : Nat → Nat → Int} {S : PS} {a0 a1 : Nat} {x2 xs0 : Int} (kt : xs0 = 0 → Ev d mX8_firstWay (30, [some (vR (some (18, 0, a0))), some (vR (some (11, 0, a1))), some (vI x2), none], [], (I, S)) r) (kf : xs0 ≠ 0 → Ev d mX8_firstWay (21, [some (vR (some (18, 0, a0))), some (vR (some (11, 0, a1))), some (vI x2), none], [], (I, S)) r) : Ev d mX8_firstWay (18, [some (vR (some (18, 0, a0))), some (vR (some (11, 0, a1))), some (vI x2), none], [vI xs0], (I, S)) r :=
  s_if_eq 30 rfl rfl kt kf
theorem b_X8_firstWay_21 {d : Nat} {r : PO × PM} {I : Nat → Nat → Int} {S : PS} {a0 a1 : Nat} {x2 z : Int} {I1 : Nat → Nat → Int} {S1 : PS} (ho1 : -2147483648 ≤ x2 + 1 ∧ x2 + 1 ≤ 2147483647) (c : Ca d mX8_firstWay [vR (some (18, 0, a0)), vR (some (11, 0, a1)), vI (x2 + 1)] (I, S) (.inl (some (vI z))) (I1, S1)) (k : Ev (d + 1) mX8_firstWay (29, [some (vR (some (18, 0, a0))), some (vR (some (11, 0, a1))), some (vI x2), none], [vI z], (I1, S1)) r) : Ev (d + 1) mX8_firstWay (21, [some (vR (some (18, 0, a0))), some (vR (some (11, 0, a1))), some (vI x2), none], [], (I, S)) r :=
  s_aload_n rfl rfl rfl <|
  s_aload_n rfl rfl rfl <|
  s_iload_n rfl rfl rfl <|
  s_iconst rfl rfl <|
  s_iaddp rfl ho1 <|
  s_cvI rfl rfl rfl rfl rfl c k
theorem b_X8_firstWay_29 {d : Nat} {I : Nat → Nat → Int} {S : PS} {a0 a1 : Nat} {x2 xs0 : Int} (hb1 : xs0 = 0 ∨ xs0 = 1) : Ev d mX8_firstWay (29, [some (vR (some (18, 0, a0))), some (vR (some (11, 0, a1))), some (vI x2), none], [vI xs0], (I, S)) (.inl (some (vI xs0)), (I, S)) :=
  s_retz rfl rfl hb1
theorem b_X8_firstWay_30 {d : Nat} {r : PO × PM} {I : Nat → Nat → Int} {S : PS} {a0 a1 : Nat} {x2 : Int} (k : Ev d mX8_firstWay (32, [some (vR (some (18, 0, a0))), some (vR (some (11, 0, a1))), some (vI x2), some (vI 0)], [], (I, S)) r) : Ev d mX8_firstWay (30, [some (vR (some (18, 0, a0))), some (vR (some (11, 0, a1))), some (vI x2), none], [], (I, S)) r :=
  s_iconst rfl rfl <|
  s_istore_n [some (vR (some (18, 0, a0))), some (vR (some (11, 0, a1))), some (vI x2), some (vI 0)] rfl rfl <|
  k
theorem b_X8_firstWay_32 {d : Nat} {r : PO × PM} {I : Nat → Nat → Int} {S : PS} {a0 a1 : Nat} {x2 x3 : Int} (kt : 4 ≤ x3 → Ev d mX8_firstWay (93, [some (vR (some (18, 0, a0))), some (vR (some (11, 0, a1))), some (vI x2), some (vI x3)], [], (I, S)) r) (kf : x3 < 4 → Ev d mX8_firstWay (37, [some (vR (some (18, 0, a0))), some (vR (some (11, 0, a1))), some (vI x2), some (vI x3)], [], (I, S)) r) : Ev d mX8_firstWay (32, [some (vR (some (18, 0, a0))), some (vR (some (11, 0, a1))), some (vI x2), some (vI x3)], [], (I, S)) r :=
  s_iload_n rfl rfl rfl <|
  s_iconst rfl rfl <|
  s_icmp_ge 93 rfl rfl kt kf
theorem b_X8_firstWay_37 {d : Nat} {r : PO × PM} {I : Nat → Nat → Int} {S : PS} {a0 a1 p1 p2 q2 p4 q4 : Nat} {x2 x3 : Int} (hr1 : S.1 a0 0 = some (13, 0, p1)) (hr2 : S.1 p1 0 = some (0, q2, p2)) (hi3 : 0 ≤ x3 ∧ x3 < (q2 : Nat)) (hr4 : S.1 a1 4 = some (0, q4, p4)) (hi5 : 0 ≤ x2 ∧ x2 < (q4 : Nat)) (kt : p_and (I p2 x3.toNat) (I p4 x2.toNat) ≠ 0 → Ev d mX8_firstWay (87, [some (vR (some (18, 0, a0))), some (vR (some (11, 0, a1))), some (vI x2), some (vI x3)], [], (I, S)) r) (kf : p_and (I p2 x3.toNat) (I p4 x2.toNat) = 0 → Ev d mX8_firstWay (56, [some (vR (some (18, 0, a0))), some (vR (some (11, 0, a1))), some (vI x2), some (vI x3)], [], (I, S)) r) : Ev d mX8_firstWay (37, [some (vR (some (18, 0, a0))), some (vR (some (11, 0, a1))), some (vI x2), some (vI x3)], [], (I, S)) r :=
  s_aload_n rfl rfl rfl <|
  s_getR rfl rfl rfl hr1 <|
  s_getR rfl rfl rfl hr2 <|
  s_iload_n rfl rfl rfl <|
  s_iald rfl rfl hi3 <|
  s_aload_n rfl rfl rfl <|
  s_getR rfl rfl rfl hr4 <|
  s_iload_n rfl rfl rfl <|
  s_iald rfl rfl hi5 <|
  s_iand rfl <|
  s_if_ne 87 rfl rfl kt kf
theorem b_X8_firstWay_56 {d : Nat} {r : PO × PM} {I : Nat → Nat → Int} {S : PS} {a0 a1 p1 : Nat} {x2 x3 : Int} {I1 : Nat → Nat → Int} {S1 : PS} (hr1 : S.1 a0 0 = some (13, 0, p1)) (c : Ca d mX2_put [vR (some (13, 0, p1)), vI x2, vI x3] (I, S) (.inl none) (I1, S1)) (k : Ev (d + 1) mX8_firstWay (65, [some (vR (some (18, 0, a0))), some (vR (some (11, 0, a1))), some (vI x2), some (vI x3)], [], (I1, S1)) r) : Ev (d + 1) mX8_firstWay (56, [some (vR (some (18, 0, a0))), some (vR (some (11, 0, a1))), some (vI x2), some (vI x3)], [], (I, S)) r :=
  s_aload_n rfl rfl rfl <|
  s_getR rfl rfl rfl hr1 <|
  s_iload_n rfl rfl rfl <|
  s_iload_n rfl rfl rfl <|
  s_cvV rfl rfl rfl rfl rfl c k
theorem b_X8_firstWay_65 {d : Nat} {r : PO × PM} {I : Nat → Nat → Int} {S : PS} {a0 a1 : Nat} {x2 x3 z : Int} {I1 : Nat → Nat → Int} {S1 : PS} (ho1 : -2147483648 ≤ x2 + 1 ∧ x2 + 1 ≤ 2147483647) (c : Ca d mX8_firstWay [vR (some (18, 0, a0)), vR (some (11, 0, a1)), vI (x2 + 1)] (I, S) (.inl (some (vI z))) (I1, S1)) (k : Ev (d + 1) mX8_firstWay (73, [some (vR (some (18, 0, a0))), some (vR (some (11, 0, a1))), some (vI x2), some (vI x3)], [vI z], (I1, S1)) r) : Ev (d + 1) mX8_firstWay (65, [some (vR (some (18, 0, a0))), some (vR (some (11, 0, a1))), some (vI x2), some (vI x3)], [], (I, S)) r :=
  s_aload_n rfl rfl rfl <|
  s_aload_n rfl rfl rfl <|
  s_iload_n rfl rfl rfl <|
  s_iconst rfl rfl <|
  s_iaddp rfl ho1 <|
  s_cvI rfl rfl rfl rfl rfl c k
theorem b_X8_firstWay_73 {d : Nat} {r : PO × PM} {I : Nat → Nat → Int} {S : PS} {a0 a1 : Nat} {x2 x3 xs0 : Int} (kt : xs0 = 0 → Ev d mX8_firstWay (78, [some (vR (some (18, 0, a0))), some (vR (some (11, 0, a1))), some (vI x2), some (vI x3)], [], (I, S)) r) (kf : xs0 ≠ 0 → Ev d mX8_firstWay (76, [some (vR (some (18, 0, a0))), some (vR (some (11, 0, a1))), some (vI x2), some (vI x3)], [], (I, S)) r) : Ev d mX8_firstWay (73, [some (vR (some (18, 0, a0))), some (vR (some (11, 0, a1))), some (vI x2), some (vI x3)], [vI xs0], (I, S)) r :=
  s_if_eq 78 rfl rfl kt kf
theorem b_X8_firstWay_76 {d : Nat} {I : Nat → Nat → Int} {S : PS} {a0 a1 : Nat} {x2 x3 : Int} : Ev d mX8_firstWay (76, [some (vR (some (18, 0, a0))), some (vR (some (11, 0, a1))), some (vI x2), some (vI x3)], [], (I, S)) (.inl (some (vI 1)), (I, S)) :=
  s_iconst rfl rfl <|
  s_ret rfl rfl
theorem b_X8_firstWay_78 {d : Nat} {r : PO × PM} {I : Nat → Nat → Int} {S : PS} {a0 a1 p1 : Nat} {x2 x3 : Int} {I1 : Nat → Nat → Int} {S1 : PS} (hr1 : S.1 a0 0 = some (13, 0, p1)) (c : Ca d mX2_take [vR (some (13, 0, p1)), vI x2, vI x3] (I, S) (.inl none) (I1, S1)) (k : Ev (d + 1) mX8_firstWay (87, [some (vR (some (18, 0, a0))), some (vR (some (11, 0, a1))), some (vI x2), some (vI x3)], [], (I1, S1)) r) : Ev (d + 1) mX8_firstWay (78, [some (vR (some (18, 0, a0))), some (vR (some (11, 0, a1))), some (vI x2), some (vI x3)], [], (I, S)) r :=
  s_aload_n rfl rfl rfl <|
  s_getR rfl rfl rfl hr1 <|
  s_iload_n rfl rfl rfl <|
  s_iload_n rfl rfl rfl <|
  s_cvV rfl rfl rfl rfl rfl c k
theorem b_X8_firstWay_87 {d : Nat} {r : PO × PM} {I : Nat → Nat → Int} {S : PS} {a0 a1 : Nat} {x2 x3 : Int} (ho1 : -2147483648 ≤ x3 + 1 ∧ x3 + 1 ≤ 2147483647) (k : Ev d mX8_firstWay (32, [some (vR (some (18, 0, a0))), some (vR (some (11, 0, a1))), some (vI x2), some (vI (x3 + 1))], [], (I, S)) r) : Ev d mX8_firstWay (87, [some (vR (some (18, 0, a0))), some (vR (some (11, 0, a1))), some (vI x2), some (vI x3)], [], (I, S)) r :=
  s_iincp [some (vR (some (18, 0, a0))), some (vR (some (11, 0, a1))), some (vI x2), some (vI (x3 + 1))] rfl rfl ho1 rfl <|
  s_goto 32 rfl rfl k
theorem b_X8_firstWay_93 {d : Nat} {I : Nat → Nat → Int} {S : PS} {a0 a1 : Nat} {x2 x3 : Int} : Ev d mX8_firstWay (93, [some (vR (some (18, 0, a0))), some (vR (some (11, 0, a1))), some (vI x2), some (vI x3)], [], (I, S)) (.inl (some (vI 0)), (I, S)) :=
  s_iconst rfl rfl <|
  s_ret rfl rfl
theorem b_X8_countWays_0 {d : Nat} {r : PO × PM} {I : Nat → Nat → Int} {S : PS} {a0 a1 : Nat} {x2 : Int} (kt : x2 < I a1 6 → Ev d mX8_countWays (10, [some (vR (some (18, 0, a0))), some (vR (some (11, 0, a1))), some (vI x2), none, none, none, none, none], [], (I, S)) r) (kf : I a1 6 ≤ x2 → Ev d mX8_countWays (8, [some (vR (some (18, 0, a0))), some (vR (some (11, 0, a1))), some (vI x2), none, none, none, none, none], [], (I, S)) r) : Ev d mX8_countWays (0, [some (vR (some (18, 0, a0))), some (vR (some (11, 0, a1))), some (vI x2), none, none, none, none, none], [], (I, S)) r :=
  s_iload_n rfl rfl rfl <|
  s_aload_n rfl rfl rfl <|
  s_getI rfl rfl rfl <|
  s_icmp_lt 10 rfl rfl kt kf
theorem b_X8_countWays_8 {d : Nat} {I : Nat → Nat → Int} {S : PS} {a0 a1 : Nat} {x2 : Int} : Ev d mX8_countWays (8, [some (vR (some (18, 0, a0))), some (vR (some (11, 0, a1))), some (vI x2), none, none, none, none, none], [], (I, S)) (.inl (some (vI 1)), (I, S)) :=
  s_iconst rfl rfl <|
  s_ret rfl rfl
theorem b_X8_countWays_10 {d : Nat} {r : PO × PM} {I : Nat → Nat → Int} {S : PS} {a0 a1 p1 : Nat} {x2 z : Int} {I1 : Nat → Nat → Int} {S1 : PS} (hr1 : S.1 a0 0 = some (13, 0, p1)) (c : Ca d mX2_isPainted [vR (some (13, 0, p1)), vI x2] (I, S) (.inl (some (vI z))) (I1, S1)) (k : Ev (d + 1) mX8_countWays (18, [some (vR (some (18, 0, a0))), some (vR (some (11, 0, a1))), some (vI x2), none, none, none, none, none], [vI z], (I1, S1)) r) : Ev (d + 1) mX8_countWays (10, [some (vR (some (18, 0, a0))), some (vR (some (11, 0, a1))), some (vI x2), none, none, none, none, none], [], (I, S)) r :=
  s_aload_n rfl rfl rfl <|
  s_getR rfl rfl rfl hr1 <|
  s_iload_n rfl rfl rfl <|
  s_cvI rfl rfl rfl rfl rfl c k
theorem b_X8_countWays_18 {d : Nat} {r : PO × PM} {I : Nat → Nat → Int} {S : PS} {a0 a1 : Nat} {x2 xs0 : Int} (kt : xs0 = 0 → Ev d mX8_countWays (30, [some (vR (some (18, 0, a0))), some (vR (some (11, 0, a1))), some (vI x2), none, none, none, none, none], [], (I, S)) r) (kf : xs0 ≠ 0 → Ev d mX8_countWays (21, [some (vR (some (18, 0, a0))), some (vR (some (11, 0, a1))), some (vI x2), none, none, none, none, none], [], (I, S)) r) : Ev d mX8_countWays (18, [some (vR (some (18, 0, a0))), some (vR (some (11, 0, a1))), some (vI x2), none, none, none, none, none], [vI xs0], (I, S)) r :=
  s_if_eq 30 rfl rfl kt kf
theorem b_X8_countWays_21 {d : Nat} {r : PO × PM} {I : Nat → Nat → Int} {S : PS} {a0 a1 : Nat} {x2 z : Int} {I1 : Nat → Nat → Int} {S1 : PS} (ho1 : -2147483648 ≤ x2 + 1 ∧ x2 + 1 ≤ 2147483647) (c : Ca d mX8_countWays [vR (some (18, 0, a0)), vR (some (11, 0, a1)), vI (x2 + 1)] (I, S) (.inl (some (vI z))) (I1, S1)) (k : Ev (d + 1) mX8_countWays (29, [some (vR (some (18, 0, a0))), some (vR (some (11, 0, a1))), some (vI x2), none, none, none, none, none], [vI z], (I1, S1)) r) : Ev (d + 1) mX8_countWays (21, [some (vR (some (18, 0, a0))), some (vR (some (11, 0, a1))), some (vI x2), none, none, none, none, none], [], (I, S)) r :=
  s_aload_n rfl rfl rfl <|
  s_aload_n rfl rfl rfl <|
  s_iload_n rfl rfl rfl <|
  s_iconst rfl rfl <|
  s_iaddp rfl ho1 <|
  s_cvI rfl rfl rfl rfl rfl c k
theorem b_X8_countWays_29 {d : Nat} {I : Nat → Nat → Int} {S : PS} {a0 a1 : Nat} {x2 xs0 : Int} : Ev d mX8_countWays (29, [some (vR (some (18, 0, a0))), some (vR (some (11, 0, a1))), some (vI x2), none, none, none, none, none], [vI xs0], (I, S)) (.inl (some (vI xs0)), (I, S)) :=
  s_ret rfl rfl
theorem b_X8_countWays_30 {d : Nat} {r : PO × PM} {I : Nat → Nat → Int} {S : PS} {a0 a1 : Nat} {x2 : Int} (k : Ev d mX8_countWays (38, [some (vR (some (18, 0, a0))), some (vR (some (11, 0, a1))), some (vI x2), some (vI 0), some (vI (-1)), some (vI 0), none, none], [], (I, S)) r) : Ev d mX8_countWays (30, [some (vR (some (18, 0, a0))), some (vR (some (11, 0, a1))), some (vI x2), none, none, none, none, none], [], (I, S)) r :=
  s_iconst rfl rfl <|
  s_istore_n [some (vR (some (18, 0, a0))), some (vR (some (11, 0, a1))), some (vI x2), some (vI 0), none, none, none, none] rfl rfl <|
  s_iconst rfl rfl <|
  s_istore [some (vR (some (18, 0, a0))), some (vR (some (11, 0, a1))), some (vI x2), some (vI 0), some (vI (-1)), none, none, none] rfl rfl <|
  s_iconst rfl rfl <|
  s_istore [some (vR (some (18, 0, a0))), some (vR (some (11, 0, a1))), some (vI x2), some (vI 0), some (vI (-1)), some (vI 0), none, none] rfl rfl <|
  k
theorem b_X8_countWays_38 {d : Nat} {r : PO × PM} {I : Nat → Nat → Int} {S : PS} {a0 a1 : Nat} {x2 x3 x4 x5 : Int} (kt : 4 ≤ x5 → Ev d mX8_countWays (158, [some (vR (some (18, 0, a0))), some (vR (some (11, 0, a1))), some (vI x2), some (vI x3), some (vI x4), some (vI x5), none, none], [], (I, S)) r) (kf : x5 < 4 → Ev d mX8_countWays (44, [some (vR (some (18, 0, a0))), some (vR (some (11, 0, a1))), some (vI x2), some (vI x3), some (vI x4), some (vI x5), none, none], [], (I, S)) r) : Ev d mX8_countWays (38, [some (vR (some (18, 0, a0))), some (vR (some (11, 0, a1))), some (vI x2), some (vI x3), some (vI x4), some (vI x5), none, none], [], (I, S)) r :=
  s_iload rfl rfl rfl <|
  s_iconst rfl rfl <|
  s_icmp_ge 158 rfl rfl kt kf
theorem b_X8_countWays_44 {d : Nat} {r : PO × PM} {I : Nat → Nat → Int} {S : PS} {a0 a1 p1 p2 q2 : Nat} {x2 x3 x4 x5 : Int} (hr1 : S.1 a0 0 = some (13, 0, p1)) (hr2 : S.1 p1 0 = some (0, q2, p2)) (hi3 : 0 ≤ x5 ∧ x5 < (q2 : Nat)) (kt : I p2 x5.toNat ≠ 0 → Ev d mX8_countWays (61, [some (vR (some (18, 0, a0))), some (vR (some (11, 0, a1))), some (vI x2), some (vI x3), some (vI x4), some (vI x5), none, none], [], (I, S)) r) (kf : I p2 x5.toNat = 0 → Ev d mX8_countWays (57, [some (vR (some (18, 0, a0))), some (vR (some (11, 0, a1))), some (vI x2), some (vI x3), some (vI x4), some (vI x5), none, none], [], (I, S)) r) : Ev d mX8_countWays (44, [some (vR (some (18, 0, a0))), some (vR (some (11, 0, a1))), some (vI x2), some (vI x3), some (vI x4), some (vI x5), none, none], [], (I, S)) r :=
  s_aload_n rfl rfl rfl <|
  s_getR rfl rfl rfl hr1 <|
  s_getR rfl rfl rfl hr2 <|
  s_iload rfl rfl rfl <|
  s_iald rfl rfl hi3 <|
  s_if_ne 61 rfl rfl kt kf
theorem b_X8_countWays_57 {d : Nat} {r : PO × PM} {I : Nat → Nat → Int} {S : PS} {a0 a1 : Nat} {x2 x3 x4 x5 : Int} (k : Ev d mX8_countWays (62, [some (vR (some (18, 0, a0))), some (vR (some (11, 0, a1))), some (vI x2), some (vI x3), some (vI x4), some (vI x5), none, none], [vI 1], (I, S)) r) : Ev d mX8_countWays (57, [some (vR (some (18, 0, a0))), some (vR (some (11, 0, a1))), some (vI x2), some (vI x3), some (vI x4), some (vI x5), none, none], [], (I, S)) r :=
  s_iconst rfl rfl <|
  s_goto 62 rfl rfl k
theorem b_X8_countWays_61 {d : Nat} {r : PO × PM} {I : Nat → Nat → Int} {S : PS} {a0 a1 : Nat} {x2 x3 x4 x5 : Int} (k : Ev d mX8_countWays (62, [some (vR (some (18, 0, a0))), some (vR (some (11, 0, a1))), some (vI x2), some (vI x3), some (vI x4), some (vI x5), none, none], [vI 0], (I, S)) r) : Ev d mX8_countWays (61, [some (vR (some (18, 0, a0))), some (vR (some (11, 0, a1))), some (vI x2), some (vI x3), some (vI x4), some (vI x5), none, none], [], (I, S)) r :=
  s_iconst rfl rfl <|
  k
theorem b_X8_countWays_62 {d : Nat} {r : PO × PM} {I : Nat → Nat → Int} {S : PS} {a0 a1 : Nat} {x2 x3 x4 x5 xs0 : Int} (kt : xs0 = 0 → Ev d mX8_countWays (83, [some (vR (some (18, 0, a0))), some (vR (some (11, 0, a1))), some (vI x2), some (vI x3), some (vI x4), some (vI x5), some (vI xs0), none], [], (I, S)) r) (kf : xs0 ≠ 0 → Ev d mX8_countWays (69, [some (vR (some (18, 0, a0))), some (vR (some (11, 0, a1))), some (vI x2), some (vI x3), some (vI x4), some (vI x5), some (vI xs0), none], [], (I, S)) r) : Ev d mX8_countWays (62, [some (vR (some (18, 0, a0))), some (vR (some (11, 0, a1))), some (vI x2), some (vI x3), some (vI x4), some (vI x5), none, none], [vI xs0], (I, S)) r :=
  s_istore [some (vR (some (18, 0, a0))), some (vR (some (11, 0, a1))), some (vI x2), some (vI x3), some (vI x4), some (vI x5), some (vI xs0), none] rfl rfl <|
  s_iload rfl rfl rfl <|
  s_if_eq 83 rfl rfl kt kf
theorem b_X8_countWays_69 {d : Nat} {r : PO × PM} {I : Nat → Nat → Int} {S : PS} {a0 a1 : Nat} {x2 x3 x4 x5 x6 : Int} (kt : x4 = (-1) → Ev d mX8_countWays (83, [some (vR (some (18, 0, a0))), some (vR (some (11, 0, a1))), some (vI x2), some (vI x3), some (vI x4), some (vI x5), some (vI x6), none], [], (I, S)) r) (kf : x4 ≠ (-1) → Ev d mX8_countWays (75, [some (vR (some (18, 0, a0))), some (vR (some (11, 0, a1))), some (vI x2), some (vI x3), some (vI x4), some (vI x5), some (vI x6), none], [], (I, S)) r) : Ev d mX8_countWays (69, [some (vR (some (18, 0, a0))), some (vR (some (11, 0, a1))), some (vI x2), some (vI x3), some (vI x4), some (vI x5), some (vI x6), none], [], (I, S)) r :=
  s_iload rfl rfl rfl <|
  s_iconst rfl rfl <|
  s_icmp_eq 83 rfl rfl kt kf
theorem b_X8_countWays_75 {d : Nat} {r : PO × PM} {I : Nat → Nat → Int} {S : PS} {a0 a1 : Nat} {x2 x3 x4 x5 x6 : Int} (ho1 : -2147483648 ≤ x3 + x4 ∧ x3 + x4 ≤ 2147483647) (k : Ev d mX8_countWays (152, [some (vR (some (18, 0, a0))), some (vR (some (11, 0, a1))), some (vI x2), some (vI (x3 + x4)), some (vI x4), some (vI x5), some (vI x6), none], [], (I, S)) r) : Ev d mX8_countWays (75, [some (vR (some (18, 0, a0))), some (vR (some (11, 0, a1))), some (vI x2), some (vI x3), some (vI x4), some (vI x5), some (vI x6), none], [], (I, S)) r :=
  s_iload_n rfl rfl rfl <|
  s_iload rfl rfl rfl <|
  s_iaddp rfl ho1 <|
  s_istore_n [some (vR (some (18, 0, a0))), some (vR (some (11, 0, a1))), some (vI x2), some (vI (x3 + x4)), some (vI x4), some (vI x5), some (vI x6), none] rfl rfl <|
  s_goto 152 rfl rfl k
theorem b_X8_countWays_83 {d : Nat} {r : PO × PM} {I : Nat → Nat → Int} {S : PS} {a0 a1 p1 p2 q2 p4 q4 : Nat} {x2 x3 x4 x5 x6 : Int} (hr1 : S.1 a0 0 = some (13, 0, p1)) (hr2 : S.1 p1 0 = some (0, q2, p2)) (hi3 : 0 ≤ x5 ∧ x5 < (q2 : Nat)) (hr4 : S.1 a1 4 = some (0, q4, p4)) (hi5 : 0 ≤ x2 ∧ x2 < (q4 : Nat)) (kt : p_and (I p2 x5.toNat) (I p4 x2.toNat) ≠ 0 → Ev d mX8_countWays (152, [some (vR (some (18, 0, a0))), some (vR (some (11, 0, a1))), some (vI x2), some (vI x3), some (vI x4), some (vI x5), some (vI x6), none], [], (I, S)) r) (kf : p_and (I p2 x5.toNat) (I p4 x2.toNat) = 0 → Ev d mX8_countWays (103, [some (vR (some (18, 0, a0))), some (vR (some (11, 0, a1))), some (vI x2), some (vI x3), some (vI x4), some (vI x5), some (vI x6), none], [], (I, S)) r) : Ev d mX8_countWays (83, [some (vR (some (18, 0, a0))), some (vR (some (11, 0, a1))), some (vI x2), some (vI x3), some (vI x4), some (vI x5), some (vI x6), none], [], (I, S)) r :=
  s_aload_n rfl rfl rfl <|
  s_getR rfl rfl rfl hr1 <|
  s_getR rfl rfl rfl hr2 <|
  s_iload rfl rfl rfl <|
  s_iald rfl rfl hi3 <|
  s_aload_n rfl rfl rfl <|
  s_getR rfl rfl rfl hr4 <|
  s_iload_n rfl rfl rfl <|
  s_iald rfl rfl hi5 <|
  s_iand rfl <|
  s_if_ne 152 rfl rfl kt kf
theorem b_X8_countWays_103 {d : Nat} {r : PO × PM} {I : Nat → Nat → Int} {S : PS} {a0 a1 p1 : Nat} {x2 x3 x4 x5 x6 : Int} {I1 : Nat → Nat → Int} {S1 : PS} (hr1 : S.1 a0 0 = some (13, 0, p1)) (c : Ca d mX2_put [vR (some (13, 0, p1)), vI x2, vI x5] (I, S) (.inl none) (I1, S1)) (k : Ev (d + 1) mX8_countWays (113, [some (vR (some (18, 0, a0))), some (vR (some (11, 0, a1))), some (vI x2), some (vI x3), some (vI x4), some (vI x5), some (vI x6), none], [], (I1, S1)) r) : Ev (d + 1) mX8_countWays (103, [some (vR (some (18, 0, a0))), some (vR (some (11, 0, a1))), some (vI x2), some (vI x3), some (vI x4), some (vI x5), some (vI x6), none], [], (I, S)) r :=
  s_aload_n rfl rfl rfl <|
  s_getR rfl rfl rfl hr1 <|
  s_iload_n rfl rfl rfl <|
  s_iload rfl rfl rfl <|
  s_cvV rfl rfl rfl rfl rfl c k
theorem b_X8_countWays_113 {d : Nat} {r : PO × PM} {I : Nat → Nat → Int} {S : PS} {a0 a1 : Nat} {x2 x3 x4 x5 x6 z : Int} {I1 : Nat → Nat → Int} {S1 : PS} (ho1 : -2147483648 ≤ x2 + 1 ∧ x2 + 1 ≤ 2147483647) (c : Ca d mX8_countWays [vR (some (18, 0, a0)), vR (some (11, 0, a1)), vI (x2 + 1)] (I, S) (.inl (some (vI z))) (I1, S1)) (k : Ev (d + 1) mX8_countWays (121, [some (vR (some (18, 0, a0))), some (vR (some (11, 0, a1))), some (vI x2), some (vI x3), some (vI x4), some (vI x5), some (vI x6), none], [vI z], (I1, S1)) r) : Ev (d + 1) mX8_countWays (113, [some (vR (some (18, 0, a0))), some (vR (some (11, 0, a1))), some (vI x2), some (vI x3), some (vI x4), some (vI x5), some (vI x6), none], [], (I, S)) r :=
  s_aload_n rfl rfl rfl <|
  s_aload_n rfl rfl rfl <|
  s_iload_n rfl rfl rfl <|
  s_iconst rfl rfl <|
  s_iaddp rfl ho1 <|
  s_cvI rfl rfl rfl rfl rfl c k
theorem b_X8_countWays_121 {d : Nat} {r : PO × PM} {I : Nat → Nat → Int} {S : PS} {a0 a1 p1 : Nat} {x2 x3 x4 x5 x6 xs0 : Int} {I1 : Nat → Nat → Int} {S1 : PS} (hr1 : S.1 a0 0 = some (13, 0, p1)) (c : Ca d mX2_take [vR (some (13, 0, p1)), vI x2, vI x5] (I, S) (.inl none) (I1, S1)) (k : Ev (d + 1) mX8_countWays (133, [some (vR (some (18, 0, a0))), some (vR (some (11, 0, a1))), some (vI x2), some (vI x3), some (vI x4), some (vI x5), some (vI x6), some (vI xs0)], [], (I1, S1)) r) : Ev (d + 1) mX8_countWays (121, [some (vR (some (18, 0, a0))), some (vR (some (11, 0, a1))), some (vI x2), some (vI x3), some (vI x4), some (vI x5), some (vI x6), none], [vI xs0], (I, S)) r :=
  s_istore [some (vR (some (18, 0, a0))), some (vR (some (11, 0, a1))), some (vI x2), some (vI x3), some (vI x4), some (vI x5), some (vI x6), some (vI xs0)] rfl rfl <|
  s_aload_n rfl rfl rfl <|
  s_getR rfl rfl rfl hr1 <|
  s_iload_n rfl rfl rfl <|
  s_iload rfl rfl rfl <|
  s_cvV rfl rfl rfl rfl rfl c k
theorem b_X8_countWays_133 {d : Nat} {r : PO × PM} {I : Nat → Nat → Int} {S : PS} {a0 a1 : Nat} {x2 x3 x4 x5 x6 x7 : Int} (ho1 : -2147483648 ≤ x3 + x7 ∧ x3 + x7 ≤ 2147483647) (kt : x6 = 0 → Ev d mX8_countWays (148, [some (vR (some (18, 0, a0))), some (vR (some (11, 0, a1))), some (vI x2), some (vI (x3 + x7)), some (vI x4), some (vI x5), some (vI x6), some (vI x7)], [], (I, S)) r) (kf : x6 ≠ 0 → Ev d mX8_countWays (143, [some (vR (some (18, 0, a0))), some (vR (some (11, 0, a1))), some (vI x2), some (vI (x3 + x7)), some (vI x4), some (vI x5), some (vI x6), some (vI x7)], [], (I, S)) r) : Ev d mX8_countWays (133, [some (vR (some (18, 0, a0))), some (vR (some (11, 0, a1))), some (vI x2), some (vI x3), some (vI x4), some (vI x5), some (vI x6), some (vI x7)], [], (I, S)) r :=
  s_iload_n rfl rfl rfl <|
  s_iload rfl rfl rfl <|
  s_iaddp rfl ho1 <|
  s_istore_n [some (vR (some (18, 0, a0))), some (vR (some (11, 0, a1))), some (vI x2), some (vI (x3 + x7)), some (vI x4), some (vI x5), some (vI x6), some (vI x7)] rfl rfl <|
  s_iload rfl rfl rfl <|
  s_if_eq 148 rfl rfl kt kf
theorem b_X8_countWays_143 {d : Nat} {r : PO × PM} {I : Nat → Nat → Int} {S : PS} {a0 a1 : Nat} {x2 x3 x4 x5 x6 x7 : Int} (k : Ev d mX8_countWays (150, [some (vR (some (18, 0, a0))), some (vR (some (11, 0, a1))), some (vI x2), some (vI x3), some (vI x4), some (vI x5), some (vI x6), some (vI x7)], [vI x7], (I, S)) r) : Ev d mX8_countWays (143, [some (vR (some (18, 0, a0))), some (vR (some (11, 0, a1))), some (vI x2), some (vI x3), some (vI x4), some (vI x5), some (vI x6), some (vI x7)], [], (I, S)) r :=
  s_iload rfl rfl rfl <|
  s_goto 150 rfl rfl k
theorem b_X8_countWays_148 {d : Nat} {r : PO × PM} {I : Nat → Nat → Int} {S : PS} {a0 a1 : Nat} {x2 x3 x4 x5 x6 x7 : Int} (k : Ev d mX8_countWays (150, [some (vR (some (18, 0, a0))), some (vR (some (11, 0, a1))), some (vI x2), some (vI x3), some (vI x4), some (vI x5), some (vI x6), some (vI x7)], [vI x4], (I, S)) r) : Ev d mX8_countWays (148, [some (vR (some (18, 0, a0))), some (vR (some (11, 0, a1))), some (vI x2), some (vI x3), some (vI x4), some (vI x5), some (vI x6), some (vI x7)], [], (I, S)) r :=
  s_iload rfl rfl rfl <|
  k
theorem b_X8_countWays_150 {d : Nat} {r : PO × PM} {I : Nat → Nat → Int} {S : PS} {a0 a1 : Nat} {x2 x3 x4 x5 x6 x7 xs0 : Int} (k : Ev d mX8_countWays (152, [some (vR (some (18, 0, a0))), some (vR (some (11, 0, a1))), some (vI x2), some (vI x3), some (vI xs0), some (vI x5), some (vI x6), none], [], (I, S)) r) : Ev d mX8_countWays (150, [some (vR (some (18, 0, a0))), some (vR (some (11, 0, a1))), some (vI x2), some (vI x3), some (vI x4), some (vI x5), some (vI x6), some (vI x7)], [vI xs0], (I, S)) r :=
  s_istore [some (vR (some (18, 0, a0))), some (vR (some (11, 0, a1))), some (vI x2), some (vI x3), some (vI xs0), some (vI x5), some (vI x6), some (vI x7)] rfl rfl <|
  (ev_forget [false, false, false, false, false, false, false, true] rfl k)
theorem b_X8_countWays_152 {d : Nat} {r : PO × PM} {I : Nat → Nat → Int} {S : PS} {a0 a1 : Nat} {x2 x3 x4 x5 x6 : Int} (ho1 : -2147483648 ≤ x5 + 1 ∧ x5 + 1 ≤ 2147483647) (k : Ev d mX8_countWays (38, [some (vR (some (18, 0, a0))), some (vR (some (11, 0, a1))), some (vI x2), some (vI x3), some (vI x4), some (vI (x5 + 1)), none, none], [], (I, S)) r) : Ev d mX8_countWays (152, [some (vR (some (18, 0, a0))), some (vR (some (11, 0, a1))), some (vI x2), some (vI x3), some (vI x4), some (vI x5), some (vI x6), none], [], (I, S)) r :=
  s_iincp [some (vR (some (18, 0, a0))), some (vR (some (11, 0, a1))), some (vI x2), some (vI x3), some (vI x4), some (vI (x5 + 1)), some (vI x6), none] rfl rfl ho1 rfl <|
  s_goto 38 rfl rfl (ev_forget [false, false, false, false, false, false, true, false] rfl k)
theorem b_X8_countWays_158 {d : Nat} {I : Nat → Nat → Int} {S : PS} {a0 a1 : Nat} {x2 x3 x4 x5 : Int} : Ev d mX8_countWays (158, [some (vR (some (18, 0, a0))), some (vR (some (11, 0, a1))), some (vI x2), some (vI x3), some (vI x4), some (vI x5), none, none], [], (I, S)) (.inl (some (vI x3)), (I, S)) :=
  s_iload_n rfl rfl rfl <|
  s_ret rfl rfl
theorem b_X8_seekFree_0 {d : Nat} {r : PO × PM} {I : Nat → Nat → Int} {S : PS} {a0 a1 p1 : Nat} {x2 z : Int} {I1 : Nat → Nat → Int} {S1 : PS} (hr1 : S.1 a0 0 = some (13, 0, p1)) (c : Ca d mX2_isPainted [vR (some (13, 0, p1)), vI x2] ((up2 (up2 I a0 1 (-1)) a0 3 (-1)), S) (.inl (some (vI z))) (I1, S1)) (k : Ev (d + 1) mX8_seekFree (18, [some (vR (some (18, 0, a0))), some (vR (some (11, 0, a1))), some (vI x2), none], [vI z], (I1, S1)) r) : Ev (d + 1) mX8_seekFree (0, [some (vR (some (18, 0, a0))), some (vR (some (11, 0, a1))), some (vI x2), none], [], (I, S)) r :=
  s_aload_n rfl rfl rfl <|
  s_iconst rfl rfl <|
  s_putI rfl rfl rfl <|
  s_aload_n rfl rfl rfl <|
  s_iconst rfl rfl <|
  s_putI rfl rfl rfl <|
  s_aload_n rfl rfl rfl <|
  s_getR rfl rfl rfl hr1 <|
  s_iload_n rfl rfl rfl <|
  s_cvI rfl rfl rfl rfl rfl c k
theorem b_X8_seekFree_18 {d : Nat} {r : PO × PM} {I : Nat → Nat → Int} {S : PS} {a0 a1 : Nat} {x2 xs0 : Int} (kt : xs0 = 0 → Ev d mX8_seekFree (22, [some (vR (some (18, 0, a0))), some (vR (some (11, 0, a1))), some (vI x2), none], [], (I, S)) r) (kf : xs0 ≠ 0 → Ev d mX8_seekFree (21, [some (vR (some (18, 0, a0))), some (vR (some (11, 0, a1))), some (vI x2), none], [], (I, S)) r) : Ev d mX8_seekFree (18, [some (vR (some (18, 0, a0))), some (vR (some (11, 0, a1))), some (vI x2), none], [vI xs0], (I, S)) r :=
  s_if_eq 22 rfl rfl kt kf
theorem b_X8_seekFree_21 {d : Nat} {I : Nat → Nat → Int} {S : PS} {a0 a1 : Nat} {x2 : Int} : Ev d mX8_seekFree (21, [some (vR (some (18, 0, a0))), some (vR (some (11, 0, a1))), some (vI x2), none], [], (I, S)) (.inl none, (I, S)) :=
  s_vret rfl rfl
theorem b_X8_seekFree_22 {d : Nat} {r : PO × PM} {I : Nat → Nat → Int} {S : PS} {a0 a1 : Nat} {x2 : Int} (k : Ev d mX8_seekFree (24, [some (vR (some (18, 0, a0))), some (vR (some (11, 0, a1))), some (vI x2), some (vI 0)], [], (I, S)) r) : Ev d mX8_seekFree (22, [some (vR (some (18, 0, a0))), some (vR (some (11, 0, a1))), some (vI x2), none], [], (I, S)) r :=
  s_iconst rfl rfl <|
  s_istore_n [some (vR (some (18, 0, a0))), some (vR (some (11, 0, a1))), some (vI x2), some (vI 0)] rfl rfl <|
  k
theorem b_X8_seekFree_24 {d : Nat} {r : PO × PM} {I : Nat → Nat → Int} {S : PS} {a0 a1 : Nat} {x2 x3 : Int} (kt : 2 < x3 → Ev d mX8_seekFree (58, [some (vR (some (18, 0, a0))), some (vR (some (11, 0, a1))), some (vI x2), some (vI x3)], [], (I, S)) r) (kf : x3 ≤ 2 → Ev d mX8_seekFree (29, [some (vR (some (18, 0, a0))), some (vR (some (11, 0, a1))), some (vI x2), some (vI x3)], [], (I, S)) r) : Ev d mX8_seekFree (24, [some (vR (some (18, 0, a0))), some (vR (some (11, 0, a1))), some (vI x2), some (vI x3)], [], (I, S)) r :=
  s_iload_n rfl rfl rfl <|
  s_iconst rfl rfl <|
  s_icmp_gt 58 rfl rfl kt kf
theorem b_X8_seekFree_29 {d : Nat} {r : PO × PM} {I : Nat → Nat → Int} {S : PS} {a0 a1 : Nat} {x2 x3 : Int} (kt : I a0 1 ≠ (-1) → Ev d mX8_seekFree (58, [some (vR (some (18, 0, a0))), some (vR (some (11, 0, a1))), some (vI x2), some (vI x3)], [], (I, S)) r) (kf : I a0 1 = (-1) → Ev d mX8_seekFree (37, [some (vR (some (18, 0, a0))), some (vR (some (11, 0, a1))), some (vI x2), some (vI x3)], [], (I, S)) r) : Ev d mX8_seekFree (29, [some (vR (some (18, 0, a0))), some (vR (some (11, 0, a1))), some (vI x2), some (vI x3)], [], (I, S)) r :=
  s_aload_n rfl rfl rfl <|
  s_getI rfl rfl rfl <|
  s_iconst rfl rfl <|
  s_icmp_ne 58 rfl rfl kt kf
theorem b_X8_seekFree_37 {d : Nat} {r : PO × PM} {I : Nat → Nat → Int} {S : PS} {a0 a1 : Nat} {x2 x3 z : Int} {I1 : Nat → Nat → Int} {S1 : PS} (c : Ca d mX8_isFreedBy [vR (some (18, 0, a0)), vR (some (11, 0, a1)), vI x2, vI x3] (I, S) (.inl (some (vI z))) (I1, S1)) (k : Ev (d + 1) mX8_seekFree (44, [some (vR (some (18, 0, a0))), some (vR (some (11, 0, a1))), some (vI x2), some (vI x3)], [vI z], (I1, S1)) r) : Ev (d + 1) mX8_seekFree (37, [some (vR (some (18, 0, a0))), some (vR (some (11, 0, a1))), some (vI x2), some (vI x3)], [], (I, S)) r :=
  s_aload_n rfl rfl rfl <|
  s_aload_n rfl rfl rfl <|
  s_iload_n rfl rfl rfl <|
  s_iload_n rfl rfl rfl <|
  s_cvI rfl rfl rfl rfl rfl c k
theorem b_X8_seekFree_44 {d : Nat} {r : PO × PM} {I : Nat → Nat → Int} {S : PS} {a0 a1 : Nat} {x2 x3 xs0 : Int} (kt : xs0 = 0 → Ev d mX8_seekFree (52, [some (vR (some (18, 0, a0))), some (vR (some (11, 0, a1))), some (vI x2), some (vI x3)], [], (I, S)) r) (kf : xs0 ≠ 0 → Ev d mX8_seekFree (47, [some (vR (some (18, 0, a0))), some (vR (some (11, 0, a1))), some (vI x2), some (vI x3)], [], (I, S)) r) : Ev d mX8_seekFree (44, [some (vR (some (18, 0, a0))), some (vR (some (11, 0, a1))), some (vI x2), some (vI x3)], [vI xs0], (I, S)) r :=
  s_if_eq 52 rfl rfl kt kf
theorem b_X8_seekFree_47 {d : Nat} {r : PO × PM} {I : Nat → Nat → Int} {S : PS} {a0 a1 : Nat} {x2 x3 : Int} (k : Ev d mX8_seekFree (52, [some (vR (some (18, 0, a0))), some (vR (some (11, 0, a1))), some (vI x2), some (vI x3)], [], ((up2 I a0 1 x3), S)) r) : Ev d mX8_seekFree (47, [some (vR (some (18, 0, a0))), some (vR (some (11, 0, a1))), some (vI x2), some (vI x3)], [], (I, S)) r :=
  s_aload_n rfl rfl rfl <|
  s_iload_n rfl rfl rfl <|
  s_putI rfl rfl rfl <|
  k
theorem b_X8_seekFree_52 {d : Nat} {r : PO × PM} {I : Nat → Nat → Int} {S : PS} {a0 a1 : Nat} {x2 x3 : Int} (ho1 : -2147483648 ≤ x3 + 1 ∧ x3 + 1 ≤ 2147483647) (k : Ev d mX8_seekFree (24, [some (vR (some (18, 0, a0))), some (vR (some (11, 0, a1))), some (vI x2), some (vI (x3 + 1))], [], (I, S)) r) : Ev d mX8_seekFree (52, [some (vR (some (18, 0, a0))), some (vR (some (11, 0, a1))), some (vI x2), some (vI x3)], [], (I, S)) r :=
  s_iincp [some (vR (some (18, 0, a0))), some (vR (some (11, 0, a1))), some (vI x2), some (vI (x3 + 1))] rfl rfl ho1 rfl <|
  s_goto 24 rfl rfl k
theorem b_X8_seekFree_58 {d : Nat} {I : Nat → Nat → Int} {S : PS} {a0 a1 : Nat} {x2 x3 : Int} : Ev d mX8_seekFree (58, [some (vR (some (18, 0, a0))), some (vR (some (11, 0, a1))), some (vI x2), some (vI x3)], [], (I, S)) (.inl none, (I, S)) :=
  s_vret rfl rfl
theorem b_X8_isFreedBy_0 {d : Nat} {r : PO × PM} {I : Nat → Nat → Int} {S : PS} {a0 a1 : Nat} {x2 x3 : Int} (kt : 0 < x3 → Ev d mX8_isFreedBy (22, [some (vR (some (18, 0, a0))), some (vR (some (11, 0, a1))), some (vI x2), some (vI x3), none, none, none, none, none], [], (I, S)) r) (kf : x3 ≤ 0 → Ev d mX8_isFreedBy (4, [some (vR (some (18, 0, a0))), some (vR (some (11, 0, a1))), some (vI x2), some (vI x3), none, none, none, none, none], [], (I, S)) r) : Ev d mX8_isFreedBy (0, [some (vR (some (18, 0, a0))), some (vR (some (11, 0, a1))), some (vI x2), some (vI x3), none, none, none, none, none], [], (I, S)) r :=
  s_iload_n rfl rfl rfl <|
  s_if_gt 22 rfl rfl kt kf
theorem b_X8_isFreedBy_4 {d : Nat} {r : PO × PM} {I : Nat → Nat → Int} {S : PS} {a0 a1 p1 : Nat} {x2 x3 z : Int} {I1 : Nat → Nat → Int} {S1 : PS} (hr1 : S.1 a0 0 = some (13, 0, p1)) (c : Ca d mX2_freeColours [vR (some (13, 0, p1)), vR (some (11, 0, a1)), vI x2] (I, S) (.inl (some (vI z))) (I1, S1)) (k : Ev (d + 1) mX8_isFreedBy (13, [some (vR (some (18, 0, a0))), some (vR (some (11, 0, a1))), some (vI x2), some (vI x3), none, none, none, none, none], [vI z], (I1, S1)) r) : Ev (d + 1) mX8_isFreedBy (4, [some (vR (some (18, 0, a0))), some (vR (some (11, 0, a1))), some (vI x2), some (vI x3), none, none, none, none, none], [], (I, S)) r :=
  s_aload_n rfl rfl rfl <|
  s_getR rfl rfl rfl hr1 <|
  s_aload_n rfl rfl rfl <|
  s_iload_n rfl rfl rfl <|
  s_cvI rfl rfl rfl rfl rfl c k
theorem b_X8_isFreedBy_13 {d : Nat} {r : PO × PM} {I : Nat → Nat → Int} {S : PS} {a0 a1 : Nat} {x2 x3 xs0 : Int} (kt : xs0 = 0 → Ev d mX8_isFreedBy (20, [some (vR (some (18, 0, a0))), some (vR (some (11, 0, a1))), some (vI x2), some (vI x3), none, none, none, none, none], [], (I, S)) r) (kf : xs0 ≠ 0 → Ev d mX8_isFreedBy (16, [some (vR (some (18, 0, a0))), some (vR (some (11, 0, a1))), some (vI x2), some (vI x3), none, none, none, none, none], [], (I, S)) r) : Ev d mX8_isFreedBy (13, [some (vR (some (18, 0, a0))), some (vR (some (11, 0, a1))), some (vI x2), some (vI x3), none, none, none, none, none], [vI xs0], (I, S)) r :=
  s_if_eq 20 rfl rfl kt kf
theorem b_X8_isFreedBy_16 {d : Nat} {r : PO × PM} {I : Nat → Nat → Int} {S : PS} {a0 a1 : Nat} {x2 x3 : Int} (k : Ev d mX8_isFreedBy (21, [some (vR (some (18, 0, a0))), some (vR (some (11, 0, a1))), some (vI x2), some (vI x3), none, none, none, none, none], [vI 1], (I, S)) r) : Ev d mX8_isFreedBy (16, [some (vR (some (18, 0, a0))), some (vR (some (11, 0, a1))), some (vI x2), some (vI x3), none, none, none, none, none], [], (I, S)) r :=
  s_iconst rfl rfl <|
  s_goto 21 rfl rfl k
theorem b_X8_isFreedBy_20 {d : Nat} {r : PO × PM} {I : Nat → Nat → Int} {S : PS} {a0 a1 : Nat} {x2 x3 : Int} (k : Ev d mX8_isFreedBy (21, [some (vR (some (18, 0, a0))), some (vR (some (11, 0, a1))), some (vI x2), some (vI x3), none, none, none, none, none], [vI 0], (I, S)) r) : Ev d mX8_isFreedBy (20, [some (vR (some (18, 0, a0))), some (vR (some (11, 0, a1))), some (vI x2), some (vI x3), none, none, none, none, none], [], (I, S)) r :=
  s_iconst rfl rfl <|
  k
theorem b_X8_isFreedBy_21 {d : Nat} {I : Nat → Nat → Int} {S : PS} {a0 a1 : Nat} {x2 x3 xs0 : Int} (hb1 : xs0 = 0 ∨ xs0 = 1) : Ev d mX8_isFreedBy (21, [some (vR (some (18, 0, a0))), some (vR (some (11, 0, a1))), some (vI x2), some (vI x3), none, none, none, none, none], [vI xs0], (I, S)) (.inl (some (vI xs0)), (I, S)) :=
  s_retz rfl rfl hb1
theorem b_X8_isFreedBy_22 {d : Nat} {r : PO × PM} {I : Nat → Nat → Int} {S : PS} {a0 a1 : Nat} {x2 x3 : Int} (k : Ev d mX8_isFreedBy (25, [some (vR (some (18, 0, a0))), some (vR (some (11, 0, a1))), some (vI x2), some (vI x3), some (vI 0), none, none, none, none], [], (I, S)) r) : Ev d mX8_isFreedBy (22, [some (vR (some (18, 0, a0))), some (vR (some (11, 0, a1))), some (vI x2), some (vI x3), none, none, none, none, none], [], (I, S)) r :=
  s_iconst rfl rfl <|
  s_istore [some (vR (some (18, 0, a0))), some (vR (some (11, 0, a1))), some (vI x2), some (vI x3), some (vI 0), none, none, none, none] rfl rfl <|
  k
theorem b_X8_isFreedBy_25 {d : Nat} {r : PO × PM} {I : Nat → Nat → Int} {S : PS} {a0 a1 : Nat} {x2 x3 x4 : Int} (kt : I a1 6 ≤ x4 → Ev d mX8_isFreedBy (141, [some (vR (some (18, 0, a0))), some (vR (some (11, 0, a1))), some (vI x2), some (vI x3), some (vI x4), none, none, none, none], [], (I, S)) r) (kf : x4 < I a1 6 → Ev d mX8_isFreedBy (34, [some (vR (some (18, 0, a0))), some (vR (some (11, 0, a1))), some (vI x2), some (vI x3), some (vI x4), none, none, none, none], [], (I, S)) r) : Ev d mX8_isFreedBy (25, [some (vR (some (18, 0, a0))), some (vR (some (11, 0, a1))), some (vI x2), some (vI x3), some (vI x4), none, none, none, none], [], (I, S)) r :=
  s_iload rfl rfl rfl <|
  s_aload_n rfl rfl rfl <|
  s_getI rfl rfl rfl <|
  s_icmp_ge 141 rfl rfl kt kf
theorem b_X8_isFreedBy_34 {d : Nat} {r : PO × PM} {I : Nat → Nat → Int} {S : PS} {a0 a1 : Nat} {x2 x3 x4 : Int} (k : Ev d mX8_isFreedBy (37, [some (vR (some (18, 0, a0))), some (vR (some (11, 0, a1))), some (vI x2), some (vI x3), some (vI x4), some (vI 0), none, none, none], [], (I, S)) r) : Ev d mX8_isFreedBy (34, [some (vR (some (18, 0, a0))), some (vR (some (11, 0, a1))), some (vI x2), some (vI x3), some (vI x4), none, none, none, none], [], (I, S)) r :=
  s_iconst rfl rfl <|
  s_istore [some (vR (some (18, 0, a0))), some (vR (some (11, 0, a1))), some (vI x2), some (vI x3), some (vI x4), some (vI 0), none, none, none] rfl rfl <|
  k
theorem b_X8_isFreedBy_37 {d : Nat} {r : PO × PM} {I : Nat → Nat → Int} {S : PS} {a0 a1 : Nat} {x2 x3 x4 x5 : Int} (kt : 4 ≤ x5 → Ev d mX8_isFreedBy (135, [some (vR (some (18, 0, a0))), some (vR (some (11, 0, a1))), some (vI x2), some (vI x3), some (vI x4), some (vI x5), none, none, none], [], (I, S)) r) (kf : x5 < 4 → Ev d mX8_isFreedBy (43, [some (vR (some (18, 0, a0))), some (vR (some (11, 0, a1))), some (vI x2), some (vI x3), some (vI x4), some (vI x5), none, none, none], [], (I, S)) r) : Ev d mX8_isFreedBy (37, [some (vR (some (18, 0, a0))), some (vR (some (11, 0, a1))), some (vI x2), some (vI x3), some (vI x4), some (vI x5), none, none, none], [], (I, S)) r :=
  s_iload rfl rfl rfl <|
  s_iconst rfl rfl <|
  s_icmp_ge 135 rfl rfl kt kf
theorem b_X8_isFreedBy_43 {d : Nat} {r : PO × PM} {I : Nat → Nat → Int} {S : PS} {a0 a1 p1 : Nat} {x2 x3 x4 x5 z : Int} {I1 : Nat → Nat → Int} {S1 : PS} (hr1 : S.1 a0 0 = some (13, 0, p1)) (c : Ca d mX2_colourAt [vR (some (13, 0, p1)), vI x4] (I, S) (.inl (some (vI z))) (I1, S1)) (k : Ev (d + 1) mX8_isFreedBy (52, [some (vR (some (18, 0, a0))), some (vR (some (11, 0, a1))), some (vI x2), some (vI x3), some (vI x4), some (vI x5), none, none, none], [vI z], (I1, S1)) r) : Ev (d + 1) mX8_isFreedBy (43, [some (vR (some (18, 0, a0))), some (vR (some (11, 0, a1))), some (vI x2), some (vI x3), some (vI x4), some (vI x5), none, none, none], [], (I, S)) r :=
  s_aload_n rfl rfl rfl <|
  s_getR rfl rfl rfl hr1 <|
  s_iload rfl rfl rfl <|
  s_cvI rfl rfl rfl rfl rfl c k
theorem b_X8_isFreedBy_52 {d : Nat} {r : PO × PM} {I : Nat → Nat → Int} {S : PS} {a0 a1 p1 : Nat} {x2 x3 x4 x5 xs0 z : Int} {I1 : Nat → Nat → Int} {S1 : PS} (hr1 : S.1 a0 0 = some (13, 0, p1)) (c : Ca d mX2_chainOf [vR (some (13, 0, p1)), vR (some (11, 0, a1)), vI x4, vI x5] (I, S) (.inl (some (vI z))) (I1, S1)) (k : Ev (d + 1) mX8_isFreedBy (66, [some (vR (some (18, 0, a0))), some (vR (some (11, 0, a1))), some (vI x2), some (vI x3), some (vI x4), some (vI x5), some (vI xs0), none, none], [vI z], (I1, S1)) r) : Ev (d + 1) mX8_isFreedBy (52, [some (vR (some (18, 0, a0))), some (vR (some (11, 0, a1))), some (vI x2), some (vI x3), some (vI x4), some (vI x5), none, none, none], [vI xs0], (I, S)) r :=
  s_istore [some (vR (some (18, 0, a0))), some (vR (some (11, 0, a1))), some (vI x2), some (vI x3), some (vI x4), some (vI x5), some (vI xs0), none, none] rfl rfl <|
  s_aload_n rfl rfl rfl <|
  s_getR rfl rfl rfl hr1 <|
  s_aload_n rfl rfl rfl <|
  s_iload rfl rfl rfl <|
  s_iload rfl rfl rfl <|
  s_cvI rfl rfl rfl rfl rfl c k
theorem b_X8_isFreedBy_66 {d : Nat} {r : PO × PM} {I : Nat → Nat → Int} {S : PS} {a0 a1 : Nat} {x2 x3 x4 x5 x6 xs0 : Int} (kt : xs0 = 0 → Ev d mX8_isFreedBy (129, [some (vR (some (18, 0, a0))), some (vR (some (11, 0, a1))), some (vI x2), some (vI x3), some (vI x4), some (vI x5), some (vI x6), some (vI xs0), none], [], (I, S)) r) (kf : xs0 ≠ 0 → Ev d mX8_isFreedBy (73, [some (vR (some (18, 0, a0))), some (vR (some (11, 0, a1))), some (vI x2), some (vI x3), some (vI x4), some (vI x5), some (vI x6), some (vI xs0), none], [], (I, S)) r) : Ev d mX8_isFreedBy (66, [some (vR (some (18, 0, a0))), some (vR (some (11, 0, a1))), some (vI x2), some (vI x3), some (vI x4), some (vI x5), some (vI x6), none, none], [vI xs0], (I, S)) r :=
  s_istore [some (vR (some (18, 0, a0))), some (vR (some (11, 0, a1))), some (vI x2), some (vI x3), some (vI x4), some (vI x5), some (vI x6), some (vI xs0), none] rfl rfl <|
  s_iload rfl rfl rfl <|
  s_if_eq 129 rfl rfl kt kf
theorem b_X8_isFreedBy_73 {d : Nat} {r : PO × PM} {I : Nat → Nat → Int} {S : PS} {a0 a1 p1 : Nat} {x2 x3 x4 x5 x6 x7 : Int} {I1 : Nat → Nat → Int} {S1 : PS} (hr1 : S.1 a0 0 = some (13, 0, p1)) (c : Ca d mX2_exchange [vR (some (13, 0, p1)), vI x7, vI x6, vI x5] (I, S) (.inl none) (I1, S1)) (k : Ev (d + 1) mX8_isFreedBy (86, [some (vR (some (18, 0, a0))), some (vR (some (11, 0, a1))), some (vI x2), some (vI x3), some (vI x4), some (vI x5), some (vI x6), some (vI x7), none], [], (I1, S1)) r) : Ev (d + 1) mX8_isFreedBy (73, [some (vR (some (18, 0, a0))), some (vR (some (11, 0, a1))), some (vI x2), some (vI x3), some (vI x4), some (vI x5), some (vI x6), some (vI x7), none], [], (I, S)) r :=
  s_aload_n rfl rfl rfl <|
  s_getR rfl rfl rfl hr1 <|
  s_iload rfl rfl rfl <|
  s_iload rfl rfl rfl <|
  s_iload rfl rfl rfl <|
  s_cvV rfl rfl rfl rfl rfl c k
theorem b_X8_isFreedBy_86 {d : Nat} {r : PO × PM} {I : Nat → Nat → Int} {S : PS} {a0 a1 : Nat} {x2 x3 x4 x5 x6 x7 z : Int} {I1 : Nat → Nat → Int} {S1 : PS} (ho1 : -2147483648 ≤ x3 - 1 ∧ x3 - 1 ≤ 2147483647) (c : Ca d mX8_isFreedBy [vR (some (18, 0, a0)), vR (some (11, 0, a1)), vI x2, vI (x3 - 1)] (I, S) (.inl (some (vI z))) (I1, S1)) (k : Ev (d + 1) mX8_isFreedBy (95, [some (vR (some (18, 0, a0))), some (vR (some (11, 0, a1))), some (vI x2), some (vI x3), some (vI x4), some (vI x5), some (vI x6), some (vI x7), none], [vI z], (I1, S1)) r) : Ev (d + 1) mX8_isFreedBy (86, [some (vR (some (18, 0, a0))), some (vR (some (11, 0, a1))), some (vI x2), some (vI x3), some (vI x4), some (vI x5), some (vI x6), some (vI x7), none], [], (I, S)) r :=
  s_aload_n rfl rfl rfl <|
  s_aload_n rfl rfl rfl <|
  s_iload_n rfl rfl rfl <|
  s_iload_n rfl rfl rfl <|
  s_iconst rfl rfl <|
  s_isubp rfl ho1 <|
  s_cvI rfl rfl rfl rfl rfl c k
theorem b_X8_isFreedBy_95 {d : Nat} {r : PO × PM} {I : Nat → Nat → Int} {S : PS} {a0 a1 p1 : Nat} {x2 x3 x4 x5 x6 x7 xs0 : Int} {I1 : Nat → Nat → Int} {S1 : PS} (hr1 : S.1 a0 0 = some (13, 0, p1)) (c : Ca d mX2_exchange [vR (some (13, 0, p1)), vI x7, vI x6, vI x5] (I, S) (.inl none) (I1, S1)) (k : Ev (d + 1) mX8_isFreedBy (110, [some (vR (some (18, 0, a0))), some (vR (some (11, 0, a1))), some (vI x2), some (vI x3), some (vI x4), some (vI x5), some (vI x6), some (vI x7), some (vI xs0)], [], (I1, S1)) r) : Ev (d + 1) mX8_isFreedBy (95, [some (vR (some (18, 0, a0))), some (vR (some (11, 0, a1))), some (vI x2), some (vI x3), some (vI x4), some (vI x5), some (vI x6), some (vI x7), none], [vI xs0], (I, S)) r :=
  s_istore [some (vR (some (18, 0, a0))), some (vR (some (11, 0, a1))), some (vI x2), some (vI x3), some (vI x4), some (vI x5), some (vI x6), some (vI x7), some (vI xs0)] rfl rfl <|
  s_aload_n rfl rfl rfl <|
  s_getR rfl rfl rfl hr1 <|
  s_iload rfl rfl rfl <|
  s_iload rfl rfl rfl <|
  s_iload rfl rfl rfl <|
  s_cvV rfl rfl rfl rfl rfl c k
theorem b_X8_isFreedBy_110 {d : Nat} {r : PO × PM} {I : Nat → Nat → Int} {S : PS} {a0 a1 : Nat} {x2 x3 x4 x5 x6 x7 x8 : Int} (kt : x8 = 0 → Ev d mX8_isFreedBy (129, [some (vR (some (18, 0, a0))), some (vR (some (11, 0, a1))), some (vI x2), some (vI x3), some (vI x4), some (vI x5), some (vI x6), some (vI x7), none], [], (I, S)) r) (kf : x8 ≠ 0 → Ev d mX8_isFreedBy (115, [some (vR (some (18, 0, a0))), some (vR (some (11, 0, a1))), some (vI x2), some (vI x3), some (vI x4), some (vI x5), some (vI x6), some (vI x7), some (vI x8)], [], (I, S)) r) : Ev d mX8_isFreedBy (110, [some (vR (some (18, 0, a0))), some (vR (some (11, 0, a1))), some (vI x2), some (vI x3), some (vI x4), some (vI x5), some (vI x6), some (vI x7), some (vI x8)], [], (I, S)) r :=
  s_iload rfl rfl rfl <|
  s_if_eq 129 rfl rfl (fun c => ev_forget [false, false, false, false, false, false, false, false, true] rfl <| kt c) kf
theorem b_X8_isFreedBy_115 {d : Nat} {I : Nat → Nat → Int} {S : PS} {a0 a1 : Nat} {x2 x3 x4 x5 x6 x7 x8 : Int} (ho1 : -2147483648 ≤ 10 * x4 ∧ 10 * x4 ≤ 2147483647) (ho2 : -2147483648 ≤ (10 * x4) + x5 ∧ (10 * x4) + x5 ≤ 2147483647) : Ev d mX8_isFreedBy (115, [some (vR (some (18, 0, a0))), some (vR (some (11, 0, a1))), some (vI x2), some (vI x3), some (vI x4), some (vI x5), some (vI x6), some (vI x7), some (vI x8)], [], (I, S)) (.inl (some (vI 1)), ((up2 I a0 3 ((10 * x4) + x5)), S)) :=
  s_aload_n rfl rfl rfl <|
  s_bipush rfl rfl <|
  s_iload rfl rfl rfl <|
  s_imulp rfl ho1 <|
  s_iload rfl rfl rfl <|
  s_iaddp rfl ho2 <|
  s_putI rfl rfl rfl <|
  s_iconst rfl rfl <|
  s_ret rfl rfl
theorem b_X8_isFreedBy_129 {d : Nat} {r : PO × PM} {I : Nat → Nat → Int} {S : PS} {a0 a1 : Nat} {x2 x3 x4 x5 x6 x7 : Int} (ho1 : -2147483648 ≤ x5 + 1 ∧ x5 + 1 ≤ 2147483647) (k : Ev d mX8_isFreedBy (37, [some (vR (some (18, 0, a0))), some (vR (some (11, 0, a1))), some (vI x2), some (vI x3), some (vI x4), some (vI (x5 + 1)), none, none, none], [], (I, S)) r) : Ev d mX8_isFreedBy (129, [some (vR (some (18, 0, a0))), some (vR (some (11, 0, a1))), some (vI x2), some (vI x3), some (vI x4), some (vI x5), some (vI x6), some (vI x7), none], [], (I, S)) r :=
  s_iincp [some (vR (some (18, 0, a0))), some (vR (some (11, 0, a1))), some (vI x2), some (vI x3), some (vI x4), some (vI (x5 + 1)), some (vI x6), some (vI x7), none] rfl rfl ho1 rfl <|
  s_goto 37 rfl rfl (ev_forget [false, false, false, false, false, false, true, true, false] rfl k)
theorem b_X8_isFreedBy_135 {d : Nat} {r : PO × PM} {I : Nat → Nat → Int} {S : PS} {a0 a1 : Nat} {x2 x3 x4 x5 : Int} (ho1 : -2147483648 ≤ x4 + 1 ∧ x4 + 1 ≤ 2147483647) (k : Ev d mX8_isFreedBy (25, [some (vR (some (18, 0, a0))), some (vR (some (11, 0, a1))), some (vI x2), some (vI x3), some (vI (x4 + 1)), none, none, none, none], [], (I, S)) r) : Ev d mX8_isFreedBy (135, [some (vR (some (18, 0, a0))), some (vR (some (11, 0, a1))), some (vI x2), some (vI x3), some (vI x4), some (vI x5), none, none, none], [], (I, S)) r :=
  s_iincp [some (vR (some (18, 0, a0))), some (vR (some (11, 0, a1))), some (vI x2), some (vI x3), some (vI (x4 + 1)), some (vI x5), none, none, none] rfl rfl ho1 rfl <|
  s_goto 25 rfl rfl (ev_forget [false, false, false, false, false, true, false, false, false] rfl k)
theorem b_X8_isFreedBy_141 {d : Nat} {I : Nat → Nat → Int} {S : PS} {a0 a1 : Nat} {x2 x3 x4 : Int} : Ev d mX8_isFreedBy (141, [some (vR (some (18, 0, a0))), some (vR (some (11, 0, a1))), some (vI x2), some (vI x3), some (vI x4), none, none, none, none], [], (I, S)) (.inl (some (vI 0)), (I, S)) :=
  s_iconst rfl rfl <|
  s_ret rfl rfl
theorem b_X8_playGame_0 {d : Nat} {r : PO × PM} {I : Nat → Nat → Int} {S : PS} {a0 a1 p1 : Nat} {I1 : Nat → Nat → Int} {S1 : PS} {z : Int} (hr1 : S.1 a0 0 = some (13, 0, p1)) (c : Ca d mX2_paintedCount [vR (some (13, 0, p1))] ((up2 (up2 I a0 2 (-1)) a0 3 (-1)), S) (.inl (some (vI z))) (I1, S1)) (k : Ev (d + 1) mX8_playGame (21, [some (vR (some (18, 0, a0))), some (vR (some (11, 0, a1))), none], [vI z, vI ((up2 (up2 I a0 2 (-1)) a0 3 (-1)) a1 6)], (I1, S1)) r) : Ev (d + 1) mX8_playGame (0, [some (vR (some (18, 0, a0))), some (vR (some (11, 0, a1))), none], [], (I, S)) r :=
  s_aload_n rfl rfl rfl <|
  s_iconst rfl rfl <|
  s_putI rfl rfl rfl <|
  s_aload_n rfl rfl rfl <|
  s_iconst rfl rfl <|
  s_putI rfl rfl rfl <|
  s_aload_n rfl rfl rfl <|
  s_getI rfl rfl rfl <|
  s_aload_n rfl rfl rfl <|
  s_getR rfl rfl rfl hr1 <|
  s_cvI rfl rfl rfl rfl rfl c k
theorem b_X8_playGame_21 {d : Nat} {r : PO × PM} {I : Nat → Nat → Int} {S : PS} {a0 a1 : Nat} {xs0 xs1 : Int} (ho1 : -2147483648 ≤ xs0 - xs1 ∧ xs0 - xs1 ≤ 2147483647) (kt : 4 < xs0 - xs1 → Ev d mX8_playGame (47, [some (vR (some (18, 0, a0))), some (vR (some (11, 0, a1))), some (vI (xs0 - xs1))], [], (I, S)) r) (kf : xs0 - xs1 ≤ 4 → Ev d mX8_playGame (28, [some (vR (some (18, 0, a0))), some (vR (some (11, 0, a1))), some (vI (xs0 - xs1))], [], (I, S)) r) : Ev d mX8_playGame (21, [some (vR (some (18, 0, a0))), some (vR (some (11, 0, a1))), none], [vI xs1, vI xs0], (I, S)) r :=
  s_isubp rfl ho1 <|
  s_istore_n [some (vR (some (18, 0, a0))), some (vR (some (11, 0, a1))), some (vI (xs0 - xs1))] rfl rfl <|
  s_iload_n rfl rfl rfl <|
  s_iconst rfl rfl <|
  s_icmp_gt 47 rfl rfl kt kf
theorem b_X8_playGame_28 {d : Nat} {r : PO × PM} {I : Nat → Nat → Int} {S : PS} {a0 a1 : Nat} {x2 z : Int} {I1 : Nat → Nat → Int} {S1 : PS} (c : Ca d mX8_isWonByFirst [vR (some (18, 0, a0)), vR (some (11, 0, a1)), vI 0, vI x2] (I, S) (.inl (some (vI z))) (I1, S1)) (k : Ev (d + 1) mX8_playGame (36, [some (vR (some (18, 0, a0))), some (vR (some (11, 0, a1))), some (vI x2)], [vI z, vR (some (18, 0, a0))], (I1, S1)) r) : Ev (d + 1) mX8_playGame (28, [some (vR (some (18, 0, a0))), some (vR (some (11, 0, a1))), some (vI x2)], [], (I, S)) r :=
  s_aload_n rfl rfl rfl <|
  s_aload_n rfl rfl rfl <|
  s_aload_n rfl rfl rfl <|
  s_iconst rfl rfl <|
  s_iload_n rfl rfl rfl <|
  s_cvI rfl rfl rfl rfl rfl c k
theorem b_X8_playGame_36 {d : Nat} {r : PO × PM} {I : Nat → Nat → Int} {S : PS} {a0 a1 as0 : Nat} {x2 xs1 : Int} (kt : xs1 = 0 → Ev d mX8_playGame (43, [some (vR (some (18, 0, a0))), some (vR (some (11, 0, a1))), some (vI x2)], [vR (some (18, 0, as0))], (I, S)) r) (kf : xs1 ≠ 0 → Ev d mX8_playGame (39, [some (vR (some (18, 0, a0))), some (vR (some (11, 0, a1))), some (vI x2)], [vR (some (18, 0, as0))], (I, S)) r) : Ev d mX8_playGame (36, [some (vR (some (18, 0, a0))), some (vR (some (11, 0, a1))), some (vI x2)], [vI xs1, vR (some (18, 0, as0))], (I, S)) r :=
  s_if_eq 43 rfl rfl kt kf
theorem b_X8_playGame_39 {d : Nat} {r : PO × PM} {I : Nat → Nat → Int} {S : PS} {a0 a1 as0 : Nat} {x2 : Int} (k : Ev d mX8_playGame (44, [some (vR (some (18, 0, a0))), some (vR (some (11, 0, a1))), some (vI x2)], [vI 1, vR (some (18, 0, as0))], (I, S)) r) : Ev d mX8_playGame (39, [some (vR (some (18, 0, a0))), some (vR (some (11, 0, a1))), some (vI x2)], [vR (some (18, 0, as0))], (I, S)) r :=
  s_iconst rfl rfl <|
  s_goto 44 rfl rfl k
theorem b_X8_playGame_43 {d : Nat} {r : PO × PM} {I : Nat → Nat → Int} {S : PS} {a0 a1 as0 : Nat} {x2 : Int} (k : Ev d mX8_playGame (44, [some (vR (some (18, 0, a0))), some (vR (some (11, 0, a1))), some (vI x2)], [vI 2, vR (some (18, 0, as0))], (I, S)) r) : Ev d mX8_playGame (43, [some (vR (some (18, 0, a0))), some (vR (some (11, 0, a1))), some (vI x2)], [vR (some (18, 0, as0))], (I, S)) r :=
  s_iconst rfl rfl <|
  k
theorem b_X8_playGame_44 {d : Nat} {r : PO × PM} {I : Nat → Nat → Int} {S : PS} {a0 a1 as0 : Nat} {x2 xs1 : Int} (k : Ev d mX8_playGame (47, [some (vR (some (18, 0, a0))), some (vR (some (11, 0, a1))), some (vI x2)], [], ((up2 I as0 2 xs1), S)) r) : Ev d mX8_playGame (44, [some (vR (some (18, 0, a0))), some (vR (some (11, 0, a1))), some (vI x2)], [vI xs1, vR (some (18, 0, as0))], (I, S)) r :=
  s_putI rfl rfl rfl <|
  k
theorem b_X8_playGame_47 {d : Nat} {I : Nat → Nat → Int} {S : PS} {a0 a1 : Nat} {x2 : Int} : Ev d mX8_playGame (47, [some (vR (some (18, 0, a0))), some (vR (some (11, 0, a1))), some (vI x2)], [], (I, S)) (.inl none, (I, S)) :=
  s_vret rfl rfl
theorem b_X8_isWonByFirst_0 {d : Nat} {r : PO × PM} {I : Nat → Nat → Int} {S : PS} {a0 a1 : Nat} {x2 x3 : Int} (kt : 0 < x3 → Ev d mX8_isWonByFirst (6, [some (vR (some (18, 0, a0))), some (vR (some (11, 0, a1))), some (vI x2), some (vI x3), none, none, none, none, none], [], (I, S)) r) (kf : x3 ≤ 0 → Ev d mX8_isWonByFirst (4, [some (vR (some (18, 0, a0))), some (vR (some (11, 0, a1))), some (vI x2), some (vI x3), none, none, none, none, none], [], (I, S)) r) : Ev d mX8_isWonByFirst (0, [some (vR (some (18, 0, a0))), some (vR (some (11, 0, a1))), some (vI x2), some (vI x3), none, none, none, none, none], [], (I, S)) r :=
  s_iload_n rfl rfl rfl <|
  s_if_gt 6 rfl rfl kt kf
theorem b_X8_isWonByFirst_4 {d : Nat} {I : Nat → Nat → Int} {S : PS} {a0 a1 : Nat} {x2 x3 : Int} : Ev d mX8_isWonByFirst (4, [some (vR (some (18, 0, a0))), some (vR (some (11, 0, a1))), some (vI x2), some (vI x3), none, none, none, none, none], [], (I, S)) (.inl (some (vI 1)), (I, S)) :=
  s_iconst rfl rfl <|
  s_ret rfl rfl
theorem b_X8_isWonByFirst_6 {d : Nat} {r : PO × PM} {I : Nat → Nat → Int} {S : PS} {a0 a1 : Nat} {x2 x3 : Int} (hd1 : (0 ≤ x2 ∧ x2 ≤ 2147483647) ∧ 0 < (2 : Int) ∧ (2 : Int) ≤ 2147483647) (kt : x2 % 2 ≠ 0 → Ev d mX8_isWonByFirst (16, [some (vR (some (18, 0, a0))), some (vR (some (11, 0, a1))), some (vI x2), some (vI x3), none, none, none, none, none], [], (I, S)) r) (kf : x2 % 2 = 0 → Ev d mX8_isWonByFirst (12, [some (vR (some (18, 0, a0))), some (vR (some (11, 0, a1))), some (vI x2), some (vI x3), none, none, none, none, none], [], (I, S)) r) : Ev d mX8_isWonByFirst (6, [some (vR (some (18, 0, a0))), some (vR (some (11, 0, a1))), some (vI x2), some (vI x3), none, none, none, none, none], [], (I, S)) r :=
  s_iload_n rfl rfl rfl <|
  s_iconst rfl rfl <|
  s_iremp rfl hd1 <|
  s_if_ne 16 rfl rfl kt kf
theorem b_X8_isWonByFirst_12 {d : Nat} {r : PO × PM} {I : Nat → Nat → Int} {S : PS} {a0 a1 : Nat} {x2 x3 : Int} (k : Ev d mX8_isWonByFirst (17, [some (vR (some (18, 0, a0))), some (vR (some (11, 0, a1))), some (vI x2), some (vI x3), none, none, none, none, none], [vI 1], (I, S)) r) : Ev d mX8_isWonByFirst (12, [some (vR (some (18, 0, a0))), some (vR (some (11, 0, a1))), some (vI x2), some (vI x3), none, none, none, none, none], [], (I, S)) r :=
  s_iconst rfl rfl <|
  s_goto 17 rfl rfl k
theorem b_X8_isWonByFirst_16 {d : Nat} {r : PO × PM} {I : Nat → Nat → Int} {S : PS} {a0 a1 : Nat} {x2 x3 : Int} (k : Ev d mX8_isWonByFirst (17, [some (vR (some (18, 0, a0))), some (vR (some (11, 0, a1))), some (vI x2), some (vI x3), none, none, none, none, none], [vI 0], (I, S)) r) : Ev d mX8_isWonByFirst (16, [some (vR (some (18, 0, a0))), some (vR (some (11, 0, a1))), some (vI x2), some (vI x3), none, none, none, none, none], [], (I, S)) r :=
  s_iconst rfl rfl <|
  k
theorem b_X8_isWonByFirst_17 {d : Nat} {r : PO × PM} {I : Nat → Nat → Int} {S : PS} {a0 a1 : Nat} {x2 x3 xs0 : Int} (k : Ev d mX8_isWonByFirst (25, [some (vR (some (18, 0, a0))), some (vR (some (11, 0, a1))), some (vI x2), some (vI x3), some (vI xs0), some (vI 0), some (vI 0), none, none], [], (I, S)) r) : Ev d mX8_isWonByFirst (17, [some (vR (some (18, 0, a0))), some (vR (some (11, 0, a1))), some (vI x2), some (vI x3), none, none, none, none, none], [vI xs0], (I, S)) r :=
  s_istore [some (vR (some (18, 0, a0))), some (vR (some (11, 0, a1))), some (vI x2), some (vI x3), some (vI xs0), none, none, none, none] rfl rfl <|
  s_iconst rfl rfl <|
  s_istore [some (vR (some (18, 0, a0))), some (vR (some (11, 0, a1))), some (vI x2), some (vI x3), some (vI xs0), some (vI 0), none, none, none] rfl rfl <|
  s_iconst rfl rfl <|
  s_istore [some (vR (some (18, 0, a0))), some (vR (some (11, 0, a1))), some (vI x2), some (vI x3), some (vI xs0), some (vI 0), some (vI 0), none, none] rfl rfl <|
  k
theorem b_X8_isWonByFirst_25 {d : Nat} {r : PO × PM} {I : Nat → Nat → Int} {S : PS} {a0 a1 : Nat} {x2 x3 x4 x5 x6 : Int} (kt : I a1 6 ≤ x6 → Ev d mX8_isWonByFirst (141, [some (vR (some (18, 0, a0))), some (vR (some (11, 0, a1))), some (vI x2), some (vI x3), some (vI x4), some (vI x5), some (vI x6), none, none], [], (I, S)) r) (kf : x6 < I a1 6 → Ev d mX8_isWonByFirst (34, [some (vR (some (18, 0, a0))), some (vR (some (11, 0, a1))), some (vI x2), some (vI x3), some (vI x4), some (vI x5), some (vI x6), none, none], [], (I, S)) r) : Ev d mX8_isWonByFirst (25, [some (vR (some (18, 0, a0))), some (vR (some (11, 0, a1))), some (vI x2), some (vI x3), some (vI x4), some (vI x5), some (vI x6), none, none], [], (I, S)) r :=
  s_iload rfl rfl rfl <|
  s_aload_n rfl rfl rfl <|
  s_getI rfl rfl rfl <|
  s_icmp_ge 141 rfl rfl kt kf
theorem b_X8_isWonByFirst_34 {d : Nat} {r : PO × PM} {I : Nat → Nat → Int} {S : PS} {a0 a1 : Nat} {x2 x3 x4 x5 x6 : Int} (k : Ev d mX8_isWonByFirst (37, [some (vR (some (18, 0, a0))), some (vR (some (11, 0, a1))), some (vI x2), some (vI x3), some (vI x4), some (vI x5), some (vI x6), some (vI 0), none], [], (I, S)) r) : Ev d mX8_isWonByFirst (34, [some (vR (some (18, 0, a0))), some (vR (some (11, 0, a1))), some (vI x2), some (vI x3), some (vI x4), some (vI x5), some (vI x6), none, none], [], (I, S)) r :=
  s_iconst rfl rfl <|
  s_istore [some (vR (some (18, 0, a0))), some (vR (some (11, 0, a1))), some (vI x2), some (vI x3), some (vI x4), some (vI x5), some (vI x6), some (vI 0), none] rfl rfl <|
  k
theorem b_X8_isWonByFirst_37 {d : Nat} {r : PO × PM} {I : Nat → Nat → Int} {S : PS} {a0 a1 : Nat} {x2 x3 x4 x5 x6 x7 : Int} (kt : 4 ≤ x7 → Ev d mX8_isWonByFirst (135, [some (vR (some (18, 0, a0))), some (vR (some (11, 0, a1))), some (vI x2), some (vI x3), some (vI x4), some (vI x5), some (vI x6), some (vI x7), none], [], (I, S)) r) (kf : x7 < 4 → Ev d mX8_isWonByFirst (43, [some (vR (some (18, 0, a0))), some (vR (some (11, 0, a1))), some (vI x2), some (vI x3), some (vI x4), some (vI x5), some (vI x6), some (vI x7), none], [], (I, S)) r) : Ev d mX8_isWonByFirst (37, [some (vR (some (18, 0, a0))), some (vR (some (11, 0, a1))), some (vI x2), some (vI x3), some (vI x4), some (vI x5), some (vI x6), some (vI x7), none], [], (I, S)) r :=
  s_iload rfl rfl rfl <|
  s_iconst rfl rfl <|
  s_icmp_ge 135 rfl rfl kt kf
theorem b_X8_isWonByFirst_43 {d : Nat} {r : PO × PM} {I : Nat → Nat → Int} {S : PS} {a0 a1 p1 : Nat} {x2 x3 x4 x5 x6 x7 z : Int} {I1 : Nat → Nat → Int} {S1 : PS} (hr1 : S.1 a0 0 = some (13, 0, p1)) (c : Ca d mX2_mayPaint [vR (some (13, 0, p1)), vR (some (11, 0, a1)), vI x6, vI x7] (I, S) (.inl (some (vI z))) (I1, S1)) (k : Ev (d + 1) mX8_isWonByFirst (55, [some (vR (some (18, 0, a0))), some (vR (some (11, 0, a1))), some (vI x2), some (vI x3), some (vI x4), some (vI x5), some (vI x6), some (vI x7), none], [vI z], (I1, S1)) r) : Ev (d + 1) mX8_isWonByFirst (43, [some (vR (some (18, 0, a0))), some (vR (some (11, 0, a1))), some (vI x2), some (vI x3), some (vI x4), some (vI x5), some (vI x6), some (vI x7), none], [], (I, S)) r :=
  s_aload_n rfl rfl rfl <|
  s_getR rfl rfl rfl hr1 <|
  s_aload_n rfl rfl rfl <|
  s_iload rfl rfl rfl <|
  s_iload rfl rfl rfl <|
  s_cvI rfl rfl rfl rfl rfl c k
theorem b_X8_isWonByFirst_55 {d : Nat} {r : PO × PM} {I : Nat → Nat → Int} {S : PS} {a0 a1 : Nat} {x2 x3 x4 x5 x6 x7 xs0 : Int} (kt : xs0 = 0 → Ev d mX8_isWonByFirst (129, [some (vR (some (18, 0, a0))), some (vR (some (11, 0, a1))), some (vI x2), some (vI x3), some (vI x4), some (vI x5), some (vI x6), some (vI x7), none], [], (I, S)) r) (kf : xs0 ≠ 0 → Ev d mX8_isWonByFirst (58, [some (vR (some (18, 0, a0))), some (vR (some (11, 0, a1))), some (vI x2), some (vI x3), some (vI x4), some (vI x5), some (vI x6), some (vI x7), none], [], (I, S)) r) : Ev d mX8_isWonByFirst (55, [some (vR (some (18, 0, a0))), some (vR (some (11, 0, a1))), some (vI x2), some (vI x3), some (vI x4), some (vI x5), some (vI x6), some (vI x7), none], [vI xs0], (I, S)) r :=
  s_if_eq 129 rfl rfl kt kf
theorem b_X8_isWonByFirst_58 {d : Nat} {r : PO × PM} {I : Nat → Nat → Int} {S : PS} {a0 a1 p1 : Nat} {x2 x3 x4 x5 x6 x7 : Int} {I1 : Nat → Nat → Int} {S1 : PS} (hr1 : S.1 a0 0 = some (13, 0, p1)) (c : Ca d mX2_put [vR (some (13, 0, p1)), vI x6, vI x7] (I, S) (.inl none) (I1, S1)) (k : Ev (d + 1) mX8_isWonByFirst (72, [some (vR (some (18, 0, a0))), some (vR (some (11, 0, a1))), some (vI x2), some (vI x3), some (vI x4), some (vI 1), some (vI x6), some (vI x7), none], [], (I1, S1)) r) : Ev (d + 1) mX8_isWonByFirst (58, [some (vR (some (18, 0, a0))), some (vR (some (11, 0, a1))), some (vI x2), some (vI x3), some (vI x4), some (vI x5), some (vI x6), some (vI x7), none], [], (I, S)) r :=
  s_iconst rfl rfl <|
  s_istore [some (vR (some (18, 0, a0))), some (vR (some (11, 0, a1))), some (vI x2), some (vI x3), some (vI x4), some (vI 1), some (vI x6), some (vI x7), none] rfl rfl <|
  s_aload_n rfl rfl rfl <|
  s_getR rfl rfl rfl hr1 <|
  s_iload rfl rfl rfl <|
  s_iload rfl rfl rfl <|
  s_cvV rfl rfl rfl rfl rfl c k
theorem b_X8_isWonByFirst_72 {d : Nat} {r : PO × PM} {I : Nat → Nat → Int} {S : PS} {a0 a1 : Nat} {x2 x3 x4 x5 x6 x7 z : Int} {I1 : Nat → Nat → Int} {S1 : PS} (ho1 : -2147483648 ≤ x2 + 1 ∧ x2 + 1 ≤ 2147483647) (ho2 : -2147483648 ≤ x3 - 1 ∧ x3 - 1 ≤ 2147483647) (c : Ca d mX8_isWonByFirst [vR (some (18, 0, a0)), vR (some (11, 0, a1)), vI (x2 + 1), vI (x3 - 1)] (I, S) (.inl (some (vI z))) (I1, S1)) (k : Ev (d + 1) mX8_isWonByFirst (83, [some (vR (some (18, 0, a0))), some (vR (some (11, 0, a1))), some (vI x2), some (vI x3), some (vI x4), some (vI x5), some (vI x6), some (vI x7), none], [vI z], (I1, S1)) r) : Ev (d + 1) mX8_isWonByFirst (72, [some (vR (some (18, 0, a0))), some (vR (some (11, 0, a1))), some (vI x2), some (vI x3), some (vI x4), some (vI x5), some (vI x6), some (vI x7), none], [], (I, S)) r :=
  s_aload_n rfl rfl rfl <|
  s_aload_n rfl rfl rfl <|
  s_iload_n rfl rfl rfl <|
  s_iconst rfl rfl <|
  s_iaddp rfl ho1 <|
  s_iload_n rfl rfl rfl <|
  s_iconst rfl rfl <|
  s_isubp rfl ho2 <|
  s_cvI rfl rfl rfl rfl rfl c k
theorem b_X8_isWonByFirst_83 {d : Nat} {r : PO × PM} {I : Nat → Nat → Int} {S : PS} {a0 a1 p1 : Nat} {x2 x3 x4 x5 x6 x7 xs0 : Int} {I1 : Nat → Nat → Int} {S1 : PS} (hr1 : S.1 a0 0 = some (13, 0, p1)) (c : Ca d mX2_take [vR (some (13, 0, p1)), vI x6, vI x7] (I, S) (.inl none) (I1, S1)) (k : Ev (d + 1) mX8_isWonByFirst (96, [some (vR (some (18, 0, a0))), some (vR (some (11, 0, a1))), some (vI x2), some (vI x3), some (vI x4), some (vI x5), some (vI x6), some (vI x7), some (vI xs0)], [], (I1, S1)) r) : Ev (d + 1) mX8_isWonByFirst (83, [some (vR (some (18, 0, a0))), some (vR (some (11, 0, a1))), some (vI x2), some (vI x3), some (vI x4), some (vI x5), some (vI x6), some (vI x7), none], [vI xs0], (I, S)) r :=
  s_istore [some (vR (some (18, 0, a0))), some (vR (some (11, 0, a1))), some (vI x2), some (vI x3), some (vI x4), some (vI x5), some (vI x6), some (vI x7), some (vI xs0)] rfl rfl <|
  s_aload_n rfl rfl rfl <|
  s_getR rfl rfl rfl hr1 <|
  s_iload rfl rfl rfl <|
  s_iload rfl rfl rfl <|
  s_cvV rfl rfl rfl rfl rfl c k
theorem b_X8_isWonByFirst_96 {d : Nat} {r : PO × PM} {I : Nat → Nat → Int} {S : PS} {a0 a1 : Nat} {x2 x3 x4 x5 x6 x7 x8 : Int} (kt : x8 ≠ x4 → Ev d mX8_isWonByFirst (129, [some (vR (some (18, 0, a0))), some (vR (some (11, 0, a1))), some (vI x2), some (vI x3), some (vI x4), some (vI x5), some (vI x6), some (vI x7), none], [], (I, S)) r) (kf : x8 = x4 → Ev d mX8_isWonByFirst (103, [some (vR (some (18, 0, a0))), some (vR (some (11, 0, a1))), some (vI x2), some (vI x3), some (vI x4), some (vI x5), some (vI x6), some (vI x7), some (vI x8)], [], (I, S)) r) : Ev d mX8_isWonByFirst (96, [some (vR (some (18, 0, a0))), some (vR (some (11, 0, a1))), some (vI x2), some (vI x3), some (vI x4), some (vI x5), some (vI x6), some (vI x7), some (vI x8)], [], (I, S)) r :=
  s_iload rfl rfl rfl <|
  s_iload rfl rfl rfl <|
  s_icmp_ne 129 rfl rfl (fun c => ev_forget [false, false, false, false, false, false, false, false, true] rfl <| kt c) kf
theorem b_X8_isWonByFirst_103 {d : Nat} {r : PO × PM} {I : Nat → Nat → Int} {S : PS} {a0 a1 : Nat} {x2 x3 x4 x5 x6 x7 x8 : Int} (kt : x2 ≠ 0 → Ev d mX8_isWonByFirst (119, [some (vR (some (18, 0, a0))), some (vR (some (11, 0, a1))), some (vI x2), some (vI x3), some (vI x4), some (vI x5), some (vI x6), some (vI x7), some (vI x8)], [vR (some (18, 0, a0))], (I, S)) r) (kf : x2 = 0 → Ev d mX8_isWonByFirst (108, [some (vR (some (18, 0, a0))), some (vR (some (11, 0, a1))), some (vI x2), some (vI x3), some (vI x4), some (vI x5), some (vI x6), some (vI x7), some (vI x8)], [vR (some (18, 0, a0))], (I, S)) r) : Ev d mX8_isWonByFirst (103, [some (vR (some (18, 0, a0))), some (vR (some (11, 0, a1))), some (vI x2), some (vI x3), some (vI x4), some (vI x5), some (vI x6), some (vI x7), some (vI x8)], [], (I, S)) r :=
  s_aload_n rfl rfl rfl <|
  s_iload_n rfl rfl rfl <|
  s_if_ne 119 rfl rfl kt kf
theorem b_X8_isWonByFirst_108 {d : Nat} {r : PO × PM} {I : Nat → Nat → Int} {S : PS} {a0 a1 as0 : Nat} {x2 x3 x4 x5 x6 x7 x8 : Int} (ho1 : -2147483648 ≤ 10 * x6 ∧ 10 * x6 ≤ 2147483647) (ho2 : -2147483648 ≤ (10 * x6) + x7 ∧ (10 * x6) + x7 ≤ 2147483647) (k : Ev d mX8_isWonByFirst (123, [some (vR (some (18, 0, a0))), some (vR (some (11, 0, a1))), some (vI x2), some (vI x3), some (vI x4), some (vI x5), some (vI x6), some (vI x7), some (vI x8)], [vI ((10 * x6) + x7), vR (some (18, 0, as0))], (I, S)) r) : Ev d mX8_isWonByFirst (108, [some (vR (some (18, 0, a0))), some (vR (some (11, 0, a1))), some (vI x2), some (vI x3), some (vI x4), some (vI x5), some (vI x6), some (vI x7), some (vI x8)], [vR (some (18, 0, as0))], (I, S)) r :=
  s_bipush rfl rfl <|
  s_iload rfl rfl rfl <|
  s_imulp rfl ho1 <|
  s_iload rfl rfl rfl <|
  s_iaddp rfl ho2 <|
  s_goto 123 rfl rfl k
theorem b_X8_isWonByFirst_119 {d : Nat} {r : PO × PM} {I : Nat → Nat → Int} {S : PS} {a0 a1 as0 : Nat} {x2 x3 x4 x5 x6 x7 x8 : Int} (k : Ev d mX8_isWonByFirst (123, [some (vR (some (18, 0, a0))), some (vR (some (11, 0, a1))), some (vI x2), some (vI x3), some (vI x4), some (vI x5), some (vI x6), some (vI x7), some (vI x8)], [vI (I a0 3), vR (some (18, 0, as0))], (I, S)) r) : Ev d mX8_isWonByFirst (119, [some (vR (some (18, 0, a0))), some (vR (some (11, 0, a1))), some (vI x2), some (vI x3), some (vI x4), some (vI x5), some (vI x6), some (vI x7), some (vI x8)], [vR (some (18, 0, as0))], (I, S)) r :=
  s_aload_n rfl rfl rfl <|
  s_getI rfl rfl rfl <|
  k
theorem b_X8_isWonByFirst_123 {d : Nat} {I : Nat → Nat → Int} {S : PS} {a0 a1 as0 : Nat} {x2 x3 x4 x5 x6 x7 x8 xs1 : Int} (hb1 : x8 = 0 ∨ x8 = 1) : Ev d mX8_isWonByFirst (123, [some (vR (some (18, 0, a0))), some (vR (some (11, 0, a1))), some (vI x2), some (vI x3), some (vI x4), some (vI x5), some (vI x6), some (vI x7), some (vI x8)], [vI xs1, vR (some (18, 0, as0))], (I, S)) (.inl (some (vI x8)), ((up2 I as0 3 xs1), S)) :=
  s_putI rfl rfl rfl <|
  s_iload rfl rfl rfl <|
  s_retz rfl rfl hb1
theorem b_X8_isWonByFirst_129 {d : Nat} {r : PO × PM} {I : Nat → Nat → Int} {S : PS} {a0 a1 : Nat} {x2 x3 x4 x5 x6 x7 : Int} (ho1 : -2147483648 ≤ x7 + 1 ∧ x7 + 1 ≤ 2147483647) (k : Ev d mX8_isWonByFirst (37, [some (vR (some (18, 0, a0))), some (vR (some (11, 0, a1))), some (vI x2), some (vI x3), some (vI x4), some (vI x5), some (vI x6), some (vI (x7 + 1)), none], [], (I, S)) r) : Ev d mX8_isWonByFirst (129, [some (vR (some (18, 0, a0))), some (vR (some (11, 0, a1))), some (vI x2), some (vI x3), some (vI x4), some (vI x5), some (vI x6), some (vI x7), none], [], (I, S)) r :=
  s_iincp [some (vR (some (18, 0, a0))), some (vR (some (11, 0, a1))), some (vI x2), some (vI x3), some (vI x4), some (vI x5), some (vI x6), some (vI (x7 + 1)), none] rfl rfl ho1 rfl <|
  s_goto 37 rfl rfl k
theorem b_X8_isWonByFirst_135 {d : Nat} {r : PO × PM} {I : Nat → Nat → Int} {S : PS} {a0 a1 : Nat} {x2 x3 x4 x5 x6 x7 : Int} (ho1 : -2147483648 ≤ x6 + 1 ∧ x6 + 1 ≤ 2147483647) (k : Ev d mX8_isWonByFirst (25, [some (vR (some (18, 0, a0))), some (vR (some (11, 0, a1))), some (vI x2), some (vI x3), some (vI x4), some (vI x5), some (vI (x6 + 1)), none, none], [], (I, S)) r) : Ev d mX8_isWonByFirst (135, [some (vR (some (18, 0, a0))), some (vR (some (11, 0, a1))), some (vI x2), some (vI x3), some (vI x4), some (vI x5), some (vI x6), some (vI x7), none], [], (I, S)) r :=
  s_iincp [some (vR (some (18, 0, a0))), some (vR (some (11, 0, a1))), some (vI x2), some (vI x3), some (vI x4), some (vI x5), some (vI (x6 + 1)), some (vI x7), none] rfl rfl ho1 rfl <|
  s_goto 25 rfl rfl (ev_forget [false, false, false, false, false, false, false, true, false] rfl k)
theorem b_X8_isWonByFirst_141 {d : Nat} {r : PO × PM} {I : Nat → Nat → Int} {S : PS} {a0 a1 : Nat} {x2 x3 x4 x5 x6 : Int} (kt : x5 = 0 → Ev d mX8_isWonByFirst (155, [some (vR (some (18, 0, a0))), some (vR (some (11, 0, a1))), some (vI x2), some (vI x3), some (vI x4), some (vI x5), some (vI x6), none, none], [], (I, S)) r) (kf : x5 ≠ 0 → Ev d mX8_isWonByFirst (146, [some (vR (some (18, 0, a0))), some (vR (some (11, 0, a1))), some (vI x2), some (vI x3), some (vI x4), some (vI x5), some (vI x6), none, none], [], (I, S)) r) : Ev d mX8_isWonByFirst (141, [some (vR (some (18, 0, a0))), some (vR (some (11, 0, a1))), some (vI x2), some (vI x3), some (vI x4), some (vI x5), some (vI x6), none, none], [], (I, S)) r :=
  s_iload rfl rfl rfl <|
  s_if_eq 155 rfl rfl kt kf
theorem b_X8_isWonByFirst_146 {d : Nat} {r : PO × PM} {I : Nat → Nat → Int} {S : PS} {a0 a1 : Nat} {x2 x3 x4 x5 x6 : Int} (kt : x4 ≠ 0 → Ev d mX8_isWonByFirst (155, [some (vR (some (18, 0, a0))), some (vR (some (11, 0, a1))), some (vI x2), some (vI x3), some (vI x4), some (vI x5), some (vI x6), none, none], [], (I, S)) r) (kf : x4 = 0 → Ev d mX8_isWonByFirst (151, [some (vR (some (18, 0, a0))), some (vR (some (11, 0, a1))), some (vI x2), some (vI x3), some (vI x4), some (vI x5), some (vI x6), none, none], [], (I, S)) r) : Ev d mX8_isWonByFirst (146, [some (vR (some (18, 0, a0))), some (vR (some (11, 0, a1))), some (vI x2), some (vI x3), some (vI x4), some (vI x5), some (vI x6), none, none], [], (I, S)) r :=
  s_iload rfl rfl rfl <|
  s_if_ne 155 rfl rfl kt kf
theorem b_X8_isWonByFirst_151 {d : Nat} {r : PO × PM} {I : Nat → Nat → Int} {S : PS} {a0 a1 : Nat} {x2 x3 x4 x5 x6 : Int} (k : Ev d mX8_isWonByFirst (156, [some (vR (some (18, 0, a0))), some (vR (some (11, 0, a1))), some (vI x2), some (vI x3), some (vI x4), some (vI x5), some (vI x6), none, none], [vI 1], (I, S)) r) : Ev d mX8_isWonByFirst (151, [some (vR (some (18, 0, a0))), some (vR (some (11, 0, a1))), some (vI x2), some (vI x3), some (vI x4), some (vI x5), some (vI x6), none, none], [], (I, S)) r :=
  s_iconst rfl rfl <|
  s_goto 156 rfl rfl k
theorem b_X8_isWonByFirst_155 {d : Nat} {r : PO × PM} {I : Nat → Nat → Int} {S : PS} {a0 a1 : Nat} {x2 x3 x4 x5 x6 : Int} (k : Ev d mX8_isWonByFirst (156, [some (vR (some (18, 0, a0))), some (vR (some (11, 0, a1))), some (vI x2), some (vI x3), some (vI x4), some (vI x5), some (vI x6), none, none], [vI 0], (I, S)) r) : Ev d mX8_isWonByFirst (155, [some (vR (some (18, 0, a0))), some (vR (some (11, 0, a1))), some (vI x2), some (vI x3), some (vI x4), some (vI x5), some (vI x6), none, none], [], (I, S)) r :=
  s_iconst rfl rfl <|
  k
theorem b_X8_isWonByFirst_156 {d : Nat} {I : Nat → Nat → Int} {S : PS} {a0 a1 : Nat} {x2 x3 x4 x5 x6 xs0 : Int} (hb1 : xs0 = 0 ∨ xs0 = 1) : Ev d mX8_isWonByFirst (156, [some (vR (some (18, 0, a0))), some (vR (some (11, 0, a1))), some (vI x2), some (vI x3), some (vI x4), some (vI x5), some (vI x6), none, none], [vI xs0], (I, S)) (.inl (some (vI xs0)), (I, S)) :=
  s_retz rfl rfl hb1
theorem b_X8_liveYears_0 {d : Nat} {r : PO × PM} {I : Nat → Nat → Int} {S : PS} {a0 a1 : Nat} {x2 x3 : Int} (k : Ev d mX8_liveYears (9, [some (vR (some (18, 0, a0))), some (vR (some (11, 0, a1))), some (vI x2), some (vI x3), some (vI 0), some (vI x2), some (vI 0), none, none], [], (I, S)) r) : Ev d mX8_liveYears (0, [some (vR (some (18, 0, a0))), some (vR (some (11, 0, a1))), some (vI x2), some (vI x3), none, none, none, none, none], [], (I, S)) r :=
  s_iconst rfl rfl <|
  s_istore [some (vR (some (18, 0, a0))), some (vR (some (11, 0, a1))), some (vI x2), some (vI x3), some (vI 0), none, none, none, none] rfl rfl <|
  s_iload_n rfl rfl rfl <|
  s_istore [some (vR (some (18, 0, a0))), some (vR (some (11, 0, a1))), some (vI x2), some (vI x3), some (vI 0), some (vI x2), none, none, none] rfl rfl <|
  s_iconst rfl rfl <|
  s_istore [some (vR (some (18, 0, a0))), some (vR (some (11, 0, a1))), some (vI x2), some (vI x3), some (vI 0), some (vI x2), some (vI 0), none, none] rfl rfl <|
  k
theorem b_X8_liveYears_9 {d : Nat} {r : PO × PM} {I : Nat → Nat → Int} {S : PS} {a0 a1 : Nat} {x2 x3 x4 x5 x6 : Int} (kt : x3 ≤ x6 → Ev d mX8_liveYears (92, [some (vR (some (18, 0, a0))), some (vR (some (11, 0, a1))), some (vI x2), some (vI x3), some (vI x4), some (vI x5), some (vI x6), none, none], [], (I, S)) r) (kf : x6 < x3 → Ev d mX8_liveYears (15, [some (vR (some (18, 0, a0))), some (vR (some (11, 0, a1))), some (vI x2), some (vI x3), some (vI x4), some (vI x5), some (vI x6), none, none], [], (I, S)) r) : Ev d mX8_liveYears (9, [some (vR (some (18, 0, a0))), some (vR (some (11, 0, a1))), some (vI x2), some (vI x3), some (vI x4), some (vI x5), some (vI x6), none, none], [], (I, S)) r :=
  s_iload rfl rfl rfl <|
  s_iload_n rfl rfl rfl <|
  s_icmp_ge 92 rfl rfl kt kf
theorem b_X8_liveYears_15 {d : Nat} {r : PO × PM} {I : Nat → Nat → Int} {S : PS} {a0 a1 : Nat} {x2 x3 x4 x5 x6 : Int} (kt : I a1 6 ≤ 0 → Ev d mX8_liveYears (92, [some (vR (some (18, 0, a0))), some (vR (some (11, 0, a1))), some (vI x2), some (vI x3), some (vI x4), some (vI x5), some (vI x6), none, none], [], (I, S)) r) (kf : 0 < I a1 6 → Ev d mX8_liveYears (22, [some (vR (some (18, 0, a0))), some (vR (some (11, 0, a1))), some (vI x2), some (vI x3), some (vI x4), some (vI x5), some (vI x6), none, none], [], (I, S)) r) : Ev d mX8_liveYears (15, [some (vR (some (18, 0, a0))), some (vR (some (11, 0, a1))), some (vI x2), some (vI x3), some (vI x4), some (vI x5), some (vI x6), none, none], [], (I, S)) r :=
  s_aload_n rfl rfl rfl <|
  s_getI rfl rfl rfl <|
  s_if_le 92 rfl rfl kt kf
theorem b_X8_liveYears_22 {d : Nat} {r : PO × PM} {I : Nat → Nat → Int} {S : PS} {a0 a1 : Nat} {x2 x3 x4 x5 x6 z : Int} {I1 : Nat → Nat → Int} {S1 : PS} (c : Ca d mX8_stirred [vI x5] (I, S) (.inl (some (vI z))) (I1, S1)) (k : Ev (d + 1) mX8_liveYears (27, [some (vR (some (18, 0, a0))), some (vR (some (11, 0, a1))), some (vI x2), some (vI x3), some (vI x4), some (vI x5), some (vI x6), none, none], [vI z], (I1, S1)) r) : Ev (d + 1) mX8_liveYears (22, [some (vR (some (18, 0, a0))), some (vR (some (11, 0, a1))), some (vI x2), some (vI x3), some (vI x4), some (vI x5), some (vI x6), none, none], [], (I, S)) r :=
  s_iload rfl rfl rfl <|
  s_csI rfl rfl rfl rfl rfl rfl c k
theorem b_X8_liveYears_27 {d : Nat} {r : PO × PM} {I : Nat → Nat → Int} {S : PS} {a0 a1 : Nat} {x2 x3 x4 x5 x6 xs0 z : Int} {I1 : Nat → Nat → Int} {S1 : PS} (c : Ca d mX8_drawn [vI xs0, vI 3] (I, S) (.inl (some (vI z))) (I1, S1)) (k : Ev (d + 1) mX8_liveYears (35, [some (vR (some (18, 0, a0))), some (vR (some (11, 0, a1))), some (vI x2), some (vI x3), some (vI x4), some (vI xs0), some (vI x6), none, none], [vI z], (I1, S1)) r) : Ev (d + 1) mX8_liveYears (27, [some (vR (some (18, 0, a0))), some (vR (some (11, 0, a1))), some (vI x2), some (vI x3), some (vI x4), some (vI x5), some (vI x6), none, none], [vI xs0], (I, S)) r :=
  s_istore [some (vR (some (18, 0, a0))), some (vR (some (11, 0, a1))), some (vI x2), some (vI x3), some (vI x4), some (vI xs0), some (vI x6), none, none] rfl rfl <|
  s_iload rfl rfl rfl <|
  s_iconst rfl rfl <|
  s_csI rfl rfl rfl rfl rfl rfl c k
theorem b_X8_liveYears_35 {d : Nat} {r : PO × PM} {I : Nat → Nat → Int} {S : PS} {a0 a1 : Nat} {x2 x3 x4 x5 x6 xs0 z : Int} {I1 : Nat → Nat → Int} {S1 : PS} (c : Ca d mX8_stirred [vI x5] (I, S) (.inl (some (vI z))) (I1, S1)) (k : Ev (d + 1) mX8_liveYears (42, [some (vR (some (18, 0, a0))), some (vR (some (11, 0, a1))), some (vI x2), some (vI x3), some (vI x4), some (vI x5), some (vI x6), some (vI xs0), none], [vI z], (I1, S1)) r) : Ev (d + 1) mX8_liveYears (35, [some (vR (some (18, 0, a0))), some (vR (some (11, 0, a1))), some (vI x2), some (vI x3), some (vI x4), some (vI x5), some (vI x6), none, none], [vI xs0], (I, S)) r :=
  s_istore [some (vR (some (18, 0, a0))), some (vR (some (11, 0, a1))), some (vI x2), some (vI x3), some (vI x4), some (vI x5), some (vI x6), some (vI xs0), none] rfl rfl <|
  s_iload rfl rfl rfl <|
  s_csI rfl rfl rfl rfl rfl rfl c k
theorem b_X8_liveYears_42 {d : Nat} {r : PO × PM} {I : Nat → Nat → Int} {S : PS} {a0 a1 : Nat} {x2 x3 x4 x5 x6 x7 xs0 z : Int} {I1 : Nat → Nat → Int} {S1 : PS} (c : Ca d mX8_drawn [vI xs0, vI (I a1 6)] (I, S) (.inl (some (vI z))) (I1, S1)) (k : Ev (d + 1) mX8_liveYears (53, [some (vR (some (18, 0, a0))), some (vR (some (11, 0, a1))), some (vI x2), some (vI x3), some (vI x4), some (vI xs0), some (vI x6), some (vI x7), none], [vI z], (I1, S1)) r) : Ev (d + 1) mX8_liveYears (42, [some (vR (some (18, 0, a0))), some (vR (some (11, 0, a1))), some (vI x2), some (vI x3), some (vI x4), some (vI x5), some (vI x6), some (vI x7), none], [vI xs0], (I, S)) r :=
  s_istore [some (vR (some (18, 0, a0))), some (vR (some (11, 0, a1))), some (vI x2), some (vI x3), some (vI x4), some (vI xs0), some (vI x6), some (vI x7), none] rfl rfl <|
  s_iload rfl rfl rfl <|
  s_aload_n rfl rfl rfl <|
  s_getI rfl rfl rfl <|
  s_csI rfl rfl rfl rfl rfl rfl c k
theorem b_X8_liveYears_53 {d : Nat} {r : PO × PM} {I : Nat → Nat → Int} {S : PS} {a0 a1 : Nat} {x2 x3 x4 x5 x6 x7 xs0 z : Int} {I1 : Nat → Nat → Int} {S1 : PS} (c : Ca d mX8_stirred [vI x5] (I, S) (.inl (some (vI z))) (I1, S1)) (k : Ev (d + 1) mX8_liveYears (60, [some (vR (some (18, 0, a0))), some (vR (some (11, 0, a1))), some (vI x2), some (vI x3), some (vI x4), some (vI x5), some (vI x6), some (vI x7), some (vI xs0)], [vI z], (I1, S1)) r) : Ev (d + 1) mX8_liveYears (53, [some (vR (some (18, 0, a0))), some (vR (some (11, 0, a1))), some (vI x2), some (vI x3), some (vI x4), some (vI x5), some (vI x6), some (vI x7), none], [vI xs0], (I, S)) r :=
  s_istore [some (vR (some (18, 0, a0))), some (vR (some (11, 0, a1))), some (vI x2), some (vI x3), some (vI x4), some (vI x5), some (vI x6), some (vI x7), some (vI xs0)] rfl rfl <|
  s_iload rfl rfl rfl <|
  s_csI rfl rfl rfl rfl rfl rfl c k
theorem b_X8_liveYears_60 {d : Nat} {r : PO × PM} {I : Nat → Nat → Int} {S : PS} {a0 a1 p1 : Nat} {x2 x3 x4 x5 x6 x7 x8 xs0 z : Int} {I1 : Nat → Nat → Int} {S1 : PS} (hr1 : S.1 a0 0 = some (13, 0, p1)) (c : Ca d mX8_drawn [vI xs0, vI 4] (I, S) (.inl (some (vI z))) (I1, S1)) (k : Ev (d + 1) mX8_liveYears (77, [some (vR (some (18, 0, a0))), some (vR (some (11, 0, a1))), some (vI x2), some (vI x3), some (vI x4), some (vI xs0), some (vI x6), some (vI x7), some (vI x8)], [vI z, vI x8, vI x7, vR (some (11, 0, a1)), vR (some (13, 0, p1))], (I1, S1)) r) : Ev (d + 1) mX8_liveYears (60, [some (vR (some (18, 0, a0))), some (vR (some (11, 0, a1))), some (vI x2), some (vI x3), some (vI x4), some (vI x5), some (vI x6), some (vI x7), some (vI x8)], [vI xs0], (I, S)) r :=
  s_istore [some (vR (some (18, 0, a0))), some (vR (some (11, 0, a1))), some (vI x2), some (vI x3), some (vI x4), some (vI xs0), some (vI x6), some (vI x7), some (vI x8)] rfl rfl <|
  s_aload_n rfl rfl rfl <|
  s_getR rfl rfl rfl hr1 <|
  s_aload_n rfl rfl rfl <|
  s_iload rfl rfl rfl <|
  s_iload rfl rfl rfl <|
  s_iload rfl rfl rfl <|
  s_iconst rfl rfl <|
  s_csI rfl rfl rfl rfl rfl rfl c k
theorem b_X8_liveYears_77 {d : Nat} {r : PO × PM} {I : Nat → Nat → Int} {S : PS} {a0 a1 as0 as1 : Nat} {x2 x3 x4 x5 x6 x7 x8 xs2 xs3 xs4 z : Int} {I1 : Nat → Nat → Int} {S1 : PS} (c : Ca d mX2_attempt [vR (some (13, 0, as0)), vR (some (11, 0, as1)), vI xs2, vI xs3, vI xs4] (I, S) (.inl (some (vI z))) (I1, S1)) (k : Ev (d + 1) mX8_liveYears (80, [some (vR (some (18, 0, a0))), some (vR (some (11, 0, a1))), some (vI x2), some (vI x3), some (vI x4), some (vI x5), some (vI x6), some (vI x7), some (vI x8)], [vI z], (I1, S1)) r) : Ev (d + 1) mX8_liveYears (77, [some (vR (some (18, 0, a0))), some (vR (some (11, 0, a1))), some (vI x2), some (vI x3), some (vI x4), some (vI x5), some (vI x6), some (vI x7), some (vI x8)], [vI xs4, vI xs3, vI xs2, vR (some (11, 0, as1)), vR (some (13, 0, as0))], (I, S)) r :=
  s_cvI rfl rfl rfl rfl rfl c k
theorem b_X8_liveYears_80 {d : Nat} {r : PO × PM} {I : Nat → Nat → Int} {S : PS} {a0 a1 : Nat} {x2 x3 x4 x5 x6 x7 x8 xs0 : Int} (kt : xs0 = 0 → Ev d mX8_liveYears (86, [some (vR (some (18, 0, a0))), some (vR (some (11, 0, a1))), some (vI x2), some (vI x3), some (vI x4), some (vI x5), some (vI x6), some (vI x7), some (vI x8)], [], (I, S)) r) (kf : xs0 ≠ 0 → Ev d mX8_liveYears (83, [some (vR (some (18, 0, a0))), some (vR (some (11, 0, a1))), some (vI x2), some (vI x3), some (vI x4), some (vI x5), some (vI x6), some (vI x7), some (vI x8)], [], (I, S)) r) : Ev d mX8_liveYears (80, [some (vR (some (18, 0, a0))), some (vR (some (11, 0, a1))), some (vI x2), some (vI x3), some (vI x4), some (vI x5), some (vI x6), some (vI x7), some (vI x8)], [vI xs0], (I, S)) r :=
  s_if_eq 86 rfl rfl kt kf
theorem b_X8_liveYears_83 {d : Nat} {r : PO × PM} {I : Nat → Nat → Int} {S : PS} {a0 a1 : Nat} {x2 x3 x4 x5 x6 x7 x8 : Int} (ho1 : -2147483648 ≤ x4 + 1 ∧ x4 + 1 ≤ 2147483647) (k : Ev d mX8_liveYears (86, [some (vR (some (18, 0, a0))), some (vR (some (11, 0, a1))), some (vI x2), some (vI x3), some (vI (x4 + 1)), some (vI x5), some (vI x6), some (vI x7), some (vI x8)], [], (I, S)) r) : Ev d mX8_liveYears (83, [some (vR (some (18, 0, a0))), some (vR (some (11, 0, a1))), some (vI x2), some (vI x3), some (vI x4), some (vI x5), some (vI x6), some (vI x7), some (vI x8)], [], (I, S)) r :=
  s_iincp [some (vR (some (18, 0, a0))), some (vR (some (11, 0, a1))), some (vI x2), some (vI x3), some (vI (x4 + 1)), some (vI x5), some (vI x6), some (vI x7), some (vI x8)] rfl rfl ho1 rfl <|
  k
theorem b_X8_liveYears_86 {d : Nat} {r : PO × PM} {I : Nat → Nat → Int} {S : PS} {a0 a1 : Nat} {x2 x3 x4 x5 x6 x7 x8 : Int} (ho1 : -2147483648 ≤ x6 + 1 ∧ x6 + 1 ≤ 2147483647) (k : Ev d mX8_liveYears (9, [some (vR (some (18, 0, a0))), some (vR (some (11, 0, a1))), some (vI x2), some (vI x3), some (vI x4), some (vI x5), some (vI (x6 + 1)), none, none], [], (I, S)) r) : Ev d mX8_liveYears (86, [some (vR (some (18, 0, a0))), some (vR (some (11, 0, a1))), some (vI x2), some (vI x3), some (vI x4), some (vI x5), some (vI x6), some (vI x7), some (vI x8)], [], (I, S)) r :=
  s_iincp [some (vR (some (18, 0, a0))), some (vR (some (11, 0, a1))), some (vI x2), some (vI x3), some (vI x4), some (vI x5), some (vI (x6 + 1)), some (vI x7), some (vI x8)] rfl rfl ho1 rfl <|
  s_goto 9 rfl rfl (ev_forget [false, false, false, false, false, false, false, true, true] rfl k)
theorem b_X8_liveYears_92 {d : Nat} {I : Nat → Nat → Int} {S : PS} {a0 a1 : Nat} {x2 x3 x4 x5 x6 : Int} : Ev d mX8_liveYears (92, [some (vR (some (18, 0, a0))), some (vR (some (11, 0, a1))), some (vI x2), some (vI x3), some (vI x4), some (vI x5), some (vI x6), none, none], [], (I, S)) (.inl (some (vI x4)), (I, S)) :=
  s_iload rfl rfl rfl <|
  s_ret rfl rfl
theorem b_X8_stirred_0 {d : Nat} {I : Nat → Nat → Int} {S : PS} {x0 : Int} : Ev d mX8_stirred (0, [some (vI x0)], [], (I, S)) (.inl (some (vI (p_add (p_mul x0 1103515245) 12345))), (I, S)) :=
  s_iload_n rfl rfl rfl <|
  s_ldc rfl rfl <|
  s_imul rfl <|
  s_sipush rfl rfl <|
  s_iadd rfl <|
  s_ret rfl rfl
theorem b_X8_drawn_0 {d : Nat} {r : PO × PM} {I : Nat → Nat → Int} {S : PS} {x0 x1 : Int} (kt : x1 ≤ 0 → Ev d mX8_drawn (17, [some (vI x0), some (vI x1)], [], (I, S)) r) (kf : 0 < x1 → Ev d mX8_drawn (4, [some (vI x0), some (vI x1)], [], (I, S)) r) : Ev d mX8_drawn (0, [some (vI x0), some (vI x1)], [], (I, S)) r :=
  s_iload_n rfl rfl rfl <|
  s_if_le 17 rfl rfl kt kf
theorem b_X8_drawn_4 {d : Nat} {r : PO × PM} {I : Nat → Nat → Int} {S : PS} {x0 x1 : Int} (hd1 : (0 ≤ p_and (p_shr x0 16) 32767 ∧ p_and (p_shr x0 16) 32767 ≤ 2147483647) ∧ 0 < x1 ∧ x1 ≤ 2147483647) (k : Ev d mX8_drawn (18, [some (vI x0), some (vI x1)], [vI ((p_and (p_shr x0 16) 32767) % x1)], (I, S)) r) : Ev d mX8_drawn (4, [some (vI x0), some (vI x1)], [], (I, S)) r :=
  s_iload_n rfl rfl rfl <|
  s_bipush rfl rfl <|
  s_ishr rfl <|
  s_sipush rfl rfl <|
  s_iand rfl <|
  s_iload_n rfl rfl rfl <|
  s_iremp rfl hd1 <|
  s_goto 18 rfl rfl k
theorem b_X8_drawn_17 {d : Nat} {r : PO × PM} {I : Nat → Nat → Int} {S : PS} {x0 x1 : Int} (k : Ev d mX8_drawn (18, [some (vI x0), some (vI x1)], [vI 0], (I, S)) r) : Ev d mX8_drawn (17, [some (vI x0), some (vI x1)], [], (I, S)) r :=
  s_iconst rfl rfl <|
  k
theorem b_X8_drawn_18 {d : Nat} {I : Nat → Nat → Int} {S : PS} {x0 x1 xs0 : Int} : Ev d mX8_drawn (18, [some (vI x0), some (vI x1)], [vI xs0], (I, S)) (.inl (some (vI xs0)), (I, S)) :=
  s_ret rfl rfl
theorem b_X9_init_0 {d : Nat} {r : PO × PM} {h : PM} {a0 : Nat} {h1 : PM} (c : Ca d mX2_init [vR (some (13, 0, (m_sz h)))] (m_new h 13 0 1) (.inl none) h1) (k : Ev (d + 1) mX9_init (12, [some (vR (some (19, 0, a0)))], [vR (some (13, 0, (m_sz h))), vR (some (19, 0, a0))], h1) r) : Ev (d + 1) mX9_init (0, [some (vR (some (19, 0, a0)))], [], h) r :=
  s_aload_n rfl rfl rfl <|
  s_obj rfl rfl rfl <|
  s_aload_n rfl rfl rfl <|
  s_new rfl rfl <|
  s_dup rfl rfl <|
  s_ci rfl rfl rfl rfl rfl rfl c k
theorem b_X9_init_12 {d : Nat} {h : PM} {a0 as0 as1 : Nat} : Ev d mX9_init (12, [some (vR (some (19, 0, a0)))], [vR (some (13, 0, as1)), vR (some (19, 0, as0))], h) (.inl none, m_sr (m_new (m_sr (m_new (m_si (m_sr (m_new (m_sr (m_new (m_sr (m_new (m_si (m_sr (m_new (m_sr h as0 0 (some (13, 0, as1))) 0 6 6) a0 1 (some (0, 6, (m_sz (m_sr h as0 0 (some (13, 0, as1))))))) a0 2 0) 0 30 30) a0 3 (some (0, 30, (m_sz (m_si (m_sr (m_new (m_sr h as0 0 (some (13, 0, as1))) 0 6 6) a0 1 (some (0, 6, (m_sz (m_sr h as0 0 (some (13, 0, as1))))))) a0 2 0))))) 0 30 30) a0 4 (some (0, 30, (m_sz (m_sr (m_new (m_si (m_sr (m_new (m_sr h as0 0 (some (13, 0, as1))) 0 6 6) a0 1 (some (0, 6, (m_sz (m_sr h as0 0 (some (13, 0, as1))))))) a0 2 0) 0 30 30) a0 3 (some (0, 30, (m_sz (m_si (m_sr (m_new (m_sr h as0 0 (some (13, 0, as1))) 0 6 6) a0 1 (some (0, 6, (m_sz (m_sr h as0 0 (some (13, 0, as1))))))) a0 2 0))))))))) 0 30 30) a0 5 (some (0, 30, (m_sz (m_sr (m_new (m_sr (m_new (m_si (m_sr (m_new (m_sr h as0 0 (some (13, 0, as1))) 0 6 6) a0 1 (some (0, 6, (m_sz (m_sr h as0 0 (some (13, 0, as1))))))) a0 2 0) 0 30 30) a0 3 (some (0, 30, (m_sz (m_si (m_sr (m_new (m_sr h as0 0 (some (13, 0, as1))) 0 6 6) a0 1 (some (0, 6, (m_sz (m_sr h as0 0 (some (13, 0, as1))))))) a0 2 0))))) 0 30 30) a0 4 (some (0, 30, (m_sz (m_sr (m_new (m_si (m_sr (m_new (m_sr h as0 0 (some (13, 0, as1))) 0 6 6) a0 1 (some (0, 6, (m_sz (m_sr h as0 0 (some (13, 0, as1))))))) a0 2 0) 0 30 30) a0 3 (some (0, 30, (m_sz (m_si (m_sr (m_new (m_sr h as0 0 (some (13, 0, as1))) 0 6 6) a0 1 (some (0, 6, (m_sz (m_sr h as0 0 (some (13, 0, as1))))))) a0 2 0))))))))))))) a0 6 0) 0 8 8) a0 7 (some (0, 8, (m_sz (m_si (m_sr (m_new (m_sr (m_new (m_sr (m_new (m_si (m_sr (m_new (m_sr h as0 0 (some (13, 0, as1))) 0 6 6) a0 1 (some (0, 6, (m_sz (m_sr h as0 0 (some (13, 0, as1))))))) a0 2 0) 0 30 30) a0 3 (some (0, 30, (m_sz (m_si (m_sr (m_new (m_sr h as0 0 (some (13, 0, as1))) 0 6 6) a0 1 (some (0, 6, (m_sz (m_sr h as0 0 (some (13, 0, as1))))))) a0 2 0))))) 0 30 30) a0 4 (some (0, 30, (m_sz (m_sr (m_new (m_si (m_sr (m_new (m_sr h as0 0 (some (13, 0, as1))) 0 6 6) a0 1 (some (0, 6, (m_sz (m_sr h as0 0 (some (13, 0, as1))))))) a0 2 0) 0 30 30) a0 3 (some (0, 30, (m_sz (m_si (m_sr (m_new (m_sr h as0 0 (some (13, 0, as1))) 0 6 6) a0 1 (some (0, 6, (m_sz (m_sr h as0 0 (some (13, 0, as1))))))) a0 2 0))))))))) 0 30 30) a0 5 (some (0, 30, (m_sz (m_sr (m_new (m_sr (m_new (m_si (m_sr (m_new (m_sr h as0 0 (some (13, 0, as1))) 0 6 6) a0 1 (some (0, 6, (m_sz (m_sr h as0 0 (some (13, 0, as1))))))) a0 2 0) 0 30 30) a0 3 (some (0, 30, (m_sz (m_si (m_sr (m_new (m_sr h as0 0 (some (13, 0, as1))) 0 6 6) a0 1 (some (0, 6, (m_sz (m_sr h as0 0 (some (13, 0, as1))))))) a0 2 0))))) 0 30 30) a0 4 (some (0, 30, (m_sz (m_sr (m_new (m_si (m_sr (m_new (m_sr h as0 0 (some (13, 0, as1))) 0 6 6) a0 1 (some (0, 6, (m_sz (m_sr h as0 0 (some (13, 0, as1))))))) a0 2 0) 0 30 30) a0 3 (some (0, 30, (m_sz (m_si (m_sr (m_new (m_sr h as0 0 (some (13, 0, as1))) 0 6 6) a0 1 (some (0, 6, (m_sz (m_sr h as0 0 (some (13, 0, as1))))))) a0 2 0))))))))))))) a0 6 0))))) 0 8 8) a0 8 (some (0, 8, (m_sz (m_sr (m_new (m_si (m_sr (m_new (m_sr (m_new (m_sr (m_new (m_si (m_sr (m_new (m_sr h as0 0 (some (13, 0, as1))) 0 6 6) a0 1 (some (0, 6, (m_sz (m_sr h as0 0 (some (13, 0, as1))))))) a0 2 0) 0 30 30) a0 3 (some (0, 30, (m_sz (m_si (m_sr (m_new (m_sr h as0 0 (some (13, 0, as1))) 0 6 6) a0 1 (some (0, 6, (m_sz (m_sr h as0 0 (some (13, 0, as1))))))) a0 2 0))))) 0 30 30) a0 4 (some (0, 30, (m_sz (m_sr (m_new (m_si (m_sr (m_new (m_sr h as0 0 (some (13, 0, as1))) 0 6 6) a0 1 (some (0, 6, (m_sz (m_sr h as0 0 (some (13, 0, as1))))))) a0 2 0) 0 30 30) a0 3 (some (0, 30, (m_sz (m_si (m_sr (m_new (m_sr h as0 0 (some (13, 0, as1))) 0 6 6) a0 1 (some (0, 6, (m_sz (m_sr h as0 0 (some (13, 0, as1))))))) a0 2 0))))))))) 0 30 30) a0 5 (some (0, 30, (m_sz (m_sr (m_new (m_sr (m_new (m_si (m_sr (m_new (m_sr h as0 0 (some (13, 0, as1))) 0 6 6) a0 1 (some (0, 6, (m_sz (m_sr h as0 0 (some (13, 0, as1))))))) a0 2 0) 0 30 30) a0 3 (some (0, 30, (m_sz (m_si (m_sr (m_new (m_sr h as0 0 (some (13, 0, as1))) 0 6 6) a0 1 (some (0, 6, (m_sz (m_sr h as0 0 (some (13, 0, as1))))))) a0 2 0))))) 0 30 30) a0 4 (some (0, 30, (m_sz (m_sr (m_new (m_si (m_sr (m_new (m_sr h as0 0 (some (13, 0, as1))) 0 6 6) a0 1 (some (0, 6, (m_sz (m_sr h as0 0 (some (13, 0, as1))))))) a0 2 0) 0 30 30) a0 3 (some (0, 30, (m_sz (m_si (m_sr (m_new (m_sr h as0 0 (some (13, 0, as1))) 0 6 6) a0 1 (some (0, 6, (m_sz (m_sr h as0 0 (some (13, 0, as1))))))) a0 2 0))))))))))))) a0 6 0) 0 8 8) a0 7 (some (0, 8, (m_sz (m_si (m_sr (m_new (m_sr (m_new (m_sr (m_new (m_si (m_sr (m_new (m_sr h as0 0 (some (13, 0, as1))) 0 6 6) a0 1 (some (0, 6, (m_sz (m_sr h as0 0 (some (13, 0, as1))))))) a0 2 0) 0 30 30) a0 3 (some (0, 30, (m_sz (m_si (m_sr (m_new (m_sr h as0 0 (some (13, 0, as1))) 0 6 6) a0 1 (some (0, 6, (m_sz (m_sr h as0 0 (some (13, 0, as1))))))) a0 2 0))))) 0 30 30) a0 4 (some (0, 30, (m_sz (m_sr (m_new (m_si (m_sr (m_new (m_sr h as0 0 (some (13, 0, as1))) 0 6 6) a0 1 (some (0, 6, (m_sz (m_sr h as0 0 (some (13, 0, as1))))))) a0 2 0) 0 30 30) a0 3 (some (0, 30, (m_sz (m_si (m_sr (m_new (m_sr h as0 0 (some (13, 0, as1))) 0 6 6) a0 1 (some (0, 6, (m_sz (m_sr h as0 0 (some (13, 0, as1))))))) a0 2 0))))))))) 0 30 30) a0 5 (some (0, 30, (m_sz (m_sr (m_new (m_sr (m_new (m_si (m_sr (m_new (m_sr h as0 0 (some (13, 0, as1))) 0 6 6) a0 1 (some (0, 6, (m_sz (m_sr h as0 0 (some (13, 0, as1))))))) a0 2 0) 0 30 30) a0 3 (some (0, 30, (m_sz (m_si (m_sr (m_new (m_sr h as0 0 (some (13, 0, as1))) 0 6 6) a0 1 (some (0, 6, (m_sz (m_sr h as0 0 (some (13, 0, as1))))))) a0 2 0))))) 0 30 30) a0 4 (some (0, 30, (m_sz (m_sr (m_new (m_si (m_sr (m_new (m_sr h as0 0 (some (13, 0, as1))) 0 6 6) a0 1 (some (0, 6, (m_sz (m_sr h as0 0 (some (13, 0, as1))))))) a0 2 0) 0 30 30) a0 3 (some (0, 30, (m_sz (m_si (m_sr (m_new (m_sr h as0 0 (some (13, 0, as1))) 0 6 6) a0 1 (some (0, 6, (m_sz (m_sr h as0 0 (some (13, 0, as1))))))) a0 2 0))))))))))))) a0 6 0))))))))) :=
  s_putR rfl rfl rfl <|
  s_aload_n rfl rfl rfl <|
  s_bipush rfl rfl <|
  s_newa (n := 6) rfl (Or.inl ⟨rfl, rfl⟩) (by decide) <|
  s_putR rfl rfl rfl <|
  s_aload_n rfl rfl rfl <|
  s_iconst rfl rfl <|
  s_putI rfl rfl rfl <|
  s_aload_n rfl rfl rfl <|
  s_bipush rfl rfl <|
  s_newa (n := 30) rfl (Or.inl ⟨rfl, rfl⟩) (by decide) <|
  s_putR rfl rfl rfl <|
  s_aload_n rfl rfl rfl <|
  s_bipush rfl rfl <|
  s_newa (n := 30) rfl (Or.inl ⟨rfl, rfl⟩) (by decide) <|
  s_putR rfl rfl rfl <|
  s_aload_n rfl rfl rfl <|
  s_bipush rfl rfl <|
  s_newa (n := 30) rfl (Or.inl ⟨rfl, rfl⟩) (by decide) <|
  s_putR rfl rfl rfl <|
  s_aload_n rfl rfl rfl <|
  s_iconst rfl rfl <|
  s_putI rfl rfl rfl <|
  s_aload_n rfl rfl rfl <|
  s_bipush rfl rfl <|
  s_newa (n := 8) rfl (Or.inl ⟨rfl, rfl⟩) (by decide) <|
  s_putR rfl rfl rfl <|
  s_aload_n rfl rfl rfl <|
  s_bipush rfl rfl <|
  s_newa (n := 8) rfl (Or.inl ⟨rfl, rfl⟩) (by decide) <|
  s_putR rfl rfl rfl <|
  s_vret rfl rfl
theorem b_X9_begin_0 {d : Nat} {r : PO × PM} {I : Nat → Nat → Int} {S : PS} {a0 a1 p1 : Nat} {I1 : Nat → Nat → Int} {S1 : PS} (hr1 : S.1 a0 0 = some (13, 0, p1)) (c : Ca d mX2_clear [vR (some (13, 0, p1))] (I, S) (.inl none) (I1, S1)) (k : Ev (d + 1) mX9_begin (7, [some (vR (some (19, 0, a0))), some (vR (some (17, 0, a1))), none], [], (I1, S1)) r) : Ev (d + 1) mX9_begin (0, [some (vR (some (19, 0, a0))), some (vR (some (17, 0, a1))), none], [], (I, S)) r :=
  s_aload_n rfl rfl rfl <|
  s_getR rfl rfl rfl hr1 <|
  s_cvV rfl rfl rfl rfl rfl c k
theorem b_X9_begin_7 {d : Nat} {r : PO × PM} {I : Nat → Nat → Int} {S : PS} {a0 a1 : Nat} (k : Ev d mX9_begin (9, [some (vR (some (19, 0, a0))), some (vR (some (17, 0, a1))), some (vI 0)], [], (I, S)) r) : Ev d mX9_begin (7, [some (vR (some (19, 0, a0))), some (vR (some (17, 0, a1))), none], [], (I, S)) r :=
  s_iconst rfl rfl <|
  s_istore_n [some (vR (some (19, 0, a0))), some (vR (some (17, 0, a1))), some (vI 0)] rfl rfl <|
  k
theorem b_X9_begin_9 {d : Nat} {r : PO × PM} {I : Nat → Nat → Int} {S : PS} {a0 a1 : Nat} {x2 : Int} (kt : I a1 0 ≤ x2 → Ev d mX9_begin (38, [some (vR (some (19, 0, a0))), some (vR (some (17, 0, a1))), some (vI x2)], [], (I, S)) r) (kf : x2 < I a1 0 → Ev d mX9_begin (17, [some (vR (some (19, 0, a0))), some (vR (some (17, 0, a1))), some (vI x2)], [], (I, S)) r) : Ev d mX9_begin (9, [some (vR (some (19, 0, a0))), some (vR (some (17, 0, a1))), some (vI x2)], [], (I, S)) r :=
  s_iload_n rfl rfl rfl <|
  s_aload_n rfl rfl rfl <|
  s_getI rfl rfl rfl <|
  s_icmp_ge 38 rfl rfl kt kf
theorem b_X9_begin_17 {d : Nat} {r : PO × PM} {I : Nat → Nat → Int} {S : PS} {a0 a1 p1 q1 p2 q2 : Nat} {x2 : Int} (hr1 : S.1 a0 1 = some (0, q1, p1)) (hr2 : S.1 a1 1 = some (0, q2, p2)) (ho3 : -2147483648 ≤ x2 * 8 ∧ x2 * 8 ≤ 2147483647) (hi4 : 0 ≤ x2 * 8 ∧ x2 * 8 < (q2 : Nat)) (hi5 : 0 ≤ x2 ∧ x2 < (q1 : Nat)) (ho6 : -2147483648 ≤ x2 + 1 ∧ x2 + 1 ≤ 2147483647) (k : Ev d mX9_begin (9, [some (vR (some (19, 0, a0))), some (vR (some (17, 0, a1))), some (vI (x2 + 1))], [], ((up2 I p1 (x2.toNat) (I p2 (x2 * 8).toNat)), S)) r) : Ev d mX9_begin (17, [some (vR (some (19, 0, a0))), some (vR (some (17, 0, a1))), some (vI x2)], [], (I, S)) r :=
  s_aload_n rfl rfl rfl <|
  s_getR rfl rfl rfl hr1 <|
  s_iload_n rfl rfl rfl <|
  s_aload_n rfl rfl rfl <|
  s_getR rfl rfl rfl hr2 <|
  s_iload_n rfl rfl rfl <|
  s_bipush rfl rfl <|
  s_imulp rfl ho3 <|
  s_iald rfl rfl hi4 <|
  s_iast rfl hi5 <|
  s_iincp [some (vR (some (19, 0, a0))), some (vR (some (17, 0, a1))), some (vI (x2 + 1))] rfl rfl ho6 rfl <|
  s_goto 9 rfl rfl k
theorem b_X9_begin_38 {d : Nat} {I : Nat → Nat → Int} {S : PS} {a0 a1 : Nat} {x2 : Int} : Ev d mX9_begin (38, [some (vR (some (19, 0, a0))), some (vR (some (17, 0, a1))), some (vI x2)], [], (I, S)) (.inl none, ((up2 (up2 I a0 2 0) a0 6 0), S)) :=
  s_aload_n rfl rfl rfl <|
  s_iconst rfl rfl <|
  s_putI rfl rfl rfl <|
  s_aload_n rfl rfl rfl <|
  s_iconst rfl rfl <|
  s_putI rfl rfl rfl <|
  s_vret rfl rfl
theorem b_X9_copyFrom_0 {d : Nat} {r : PO × PM} {I : Nat → Nat → Int} {S : PS} {a0 a1 p1 p2 : Nat} {I1 : Nat → Nat → Int} {S1 : PS} (hr1 : S.1 a0 0 = some (13, 0, p1)) (hr2 : S.1 a1 0 = some (13, 0, p2)) (c : Ca d mX2_copyFrom [vR (some (13, 0, p1)), vR (some (13, 0, p2))] (I, S) (.inl none) (I1, S1)) (k : Ev (d + 1) mX9_copyFrom (11, [some (vR (some (19, 0, a0))), some (vR (some (19, 0, a1)))], [], (I1, S1)) r) : Ev (d + 1) mX9_copyFrom (0, [some (vR (some (19, 0, a0))), some (vR (some (19, 0, a1)))], [], (I, S)) r :=
  s_aload_n rfl rfl rfl <|
  s_getR rfl rfl rfl hr1 <|
  s_aload_n rfl rfl rfl <|
  s_getR rfl rfl rfl hr2 <|
  s_cvV rfl rfl rfl rfl rfl c k
theorem b_X9_copyFrom_11 {d : Nat} {I : Nat → Nat → Int} {S : PS} {a0 a1 p1 q1 p2 q2 p5 q5 p6 q6 p9 q9 p10 q10 p13 q13 p14 q14 p17 q17 p18 q18 p21 q21 p22 q22 : Nat} (hr1 : S.1 a1 1 = some (0, q1, p1)) (hr2 : S.1 a0 1 = some (0, q2, p2)) (hc3 : (0 : Int) + 6 ≤ (q1 : Nat)) (hc4 : (0 : Int) + 6 ≤ (q2 : Nat)) (hr5 : S.1 a1 3 = some (0, q5, p5)) (hr6 : S.1 a0 3 = some (0, q6, p6)) (hc7 : (0 : Int) + 30 ≤ (q5 : Nat)) (hc8 : (0 : Int) + 30 ≤ (q6 : Nat)) (hr9 : S.1 a1 4 = some (0, q9, p9)) (hr10 : S.1 a0 4 = some (0, q10, p10)) (hc11 : (0 : Int) + 30 ≤ (q9 : Nat)) (hc12 : (0 : Int) + 30 ≤ (q10 : Nat)) (hr13 : S.1 a1 5 = some (0, q13, p13)) (hr14 : S.1 a0 5 = some (0, q14, p14)) (hc15 : (0 : Int) + 30 ≤ (q13 : Nat)) (hc16 : (0 : Int) + 30 ≤ (q14 : Nat)) (hr17 : S.1 a1 7 = some (0, q17, p17)) (hr18 : S.1 a0 7 = some (0, q18, p18)) (hc19 : (0 : Int) + 8 ≤ (q17 : Nat)) (hc20 : (0 : Int) + 8 ≤ (q18 : Nat)) (hr21 : S.1 a1 8 = some (0, q21, p21)) (hr22 : S.1 a0 8 = some (0, q22, p22)) (hc23 : (0 : Int) + 8 ≤ (q21 : Nat)) (hc24 : (0 : Int) + 8 ≤ (q22 : Nat)) : Ev d mX9_copyFrom (11, [some (vR (some (19, 0, a0))), some (vR (some (19, 0, a1)))], [], (I, S)) (.inl none, ((cpyI (cpyI (up2 (cpyI (cpyI (cpyI (up2 (cpyI I p1 0 p2 0 6) a0 2 ((cpyI I p1 0 p2 0 6) a1 2)) p5 0 p6 0 30) p9 0 p10 0 30) p13 0 p14 0 30) a0 6 ((cpyI (cpyI (cpyI (up2 (cpyI I p1 0 p2 0 6) a0 2 ((cpyI I p1 0 p2 0 6) a1 2)) p5 0 p6 0 30) p9 0 p10 0 30) p13 0 p14 0 30) a1 6)) p17 0 p18 0 8) p21 0 p22 0 8), S)) :=
  s_aload_n rfl rfl rfl <|
  s_getR rfl rfl rfl hr1 <|
  s_iconst rfl rfl <|
  s_aload_n rfl rfl rfl <|
  s_getR rfl rfl rfl hr2 <|
  s_iconst rfl rfl <|
  s_bipush rfl rfl <|
  s_copy rfl rfl (by decide) (by decide) (by decide) hc3 hc4 rfl <|
  s_aload_n rfl rfl rfl <|
  s_aload_n rfl rfl rfl <|
  s_getI rfl rfl rfl <|
  s_putI rfl rfl rfl <|
  s_aload_n rfl rfl rfl <|
  s_getR rfl rfl rfl hr5 <|
  s_iconst rfl rfl <|
  s_aload_n rfl rfl rfl <|
  s_getR rfl rfl rfl hr6 <|
  s_iconst rfl rfl <|
  s_bipush rfl rfl <|
  s_copy rfl rfl (by decide) (by decide) (by decide) hc7 hc8 rfl <|
  s_aload_n rfl rfl rfl <|
  s_getR rfl rfl rfl hr9 <|
  s_iconst rfl rfl <|
  s_aload_n rfl rfl rfl <|
  s_getR rfl rfl rfl hr10 <|
  s_iconst rfl rfl <|
  s_bipush rfl rfl <|
  s_copy rfl rfl (by decide) (by decide) (by decide) hc11 hc12 rfl <|
  s_aload_n rfl rfl rfl <|
  s_getR rfl rfl rfl hr13 <|
  s_iconst rfl rfl <|
  s_aload_n rfl rfl rfl <|
  s_getR rfl rfl rfl hr14 <|
  s_iconst rfl rfl <|
  s_bipush rfl rfl <|
  s_copy rfl rfl (by decide) (by decide) (by decide) hc15 hc16 rfl <|
  s_aload_n rfl rfl rfl <|
  s_aload_n rfl rfl rfl <|
  s_getI rfl rfl rfl <|
  s_putI rfl rfl rfl <|
  s_aload_n rfl rfl rfl <|
  s_getR rfl rfl rfl hr17 <|
  s_iconst rfl rfl <|
  s_aload_n rfl rfl rfl <|
  s_getR rfl rfl rfl hr18 <|
  s_iconst rfl rfl <|
  s_bipush rfl rfl <|
  s_copy rfl rfl (by decide) (by decide) (by decide) hc19 hc20 rfl <|
  s_aload_n rfl rfl rfl <|
  s_getR rfl rfl rfl hr21 <|
  s_iconst rfl rfl <|
  s_aload_n rfl rfl rfl <|
  s_getR rfl rfl rfl hr22 <|
  s_iconst rfl rfl <|
  s_bipush rfl rfl <|
  s_copy rfl rfl (by decide) (by decide) (by decide) hc23 hc24 rfl <|
  s_vret rfl rfl
theorem b_X9_keepAct_0 {d : Nat} {r : PO × PM} {I : Nat → Nat → Int} {S : PS} {a0 : Nat} {x1 x2 x3 : Int} (kt : I a0 2 < 30 → Ev d mX9_keepAct (13, [some (vR (some (19, 0, a0))), some (vI x1), some (vI x2), some (vI x3)], [], (I, S)) r) (kf : 30 ≤ I a0 2 → Ev d mX9_keepAct (9, [some (vR (some (19, 0, a0))), some (vI x1), some (vI x2), some (vI x3)], [], (I, S)) r) : Ev d mX9_keepAct (0, [some (vR (some (19, 0, a0))), some (vI x1), some (vI x2), some (vI x3)], [], (I, S)) r :=
  s_aload_n rfl rfl rfl <|
  s_getI rfl rfl rfl <|
  s_bipush rfl rfl <|
  s_icmp_lt 13 rfl rfl kt kf
theorem b_X9_keepAct_9 {d : Nat} {r : PO × PM} {I : Nat → Nat → Int} {S : PS} {a0 : Nat} {x1 x2 x3 : Int} {I1 : Nat → Nat → Int} {S1 : PS} (c : Ca d mX9_dropOldestAct [vR (some (19, 0, a0))] (I, S) (.inl none) (I1, S1)) (k : Ev (d + 1) mX9_keepAct (13, [some (vR (some (19, 0, a0))), some (vI x1), some (vI x2), some (vI x3)], [], (I1, S1)) r) : Ev (d + 1) mX9_keepAct (9, [some (vR (some (19, 0, a0))), some (vI x1), some (vI x2), some (vI x3)], [], (I, S)) r :=
  s_aload_n rfl rfl rfl <|
  s_cvV rfl rfl rfl rfl rfl c k
theorem b_X9_keepAct_13 {d : Nat} {I : Nat → Nat → Int} {S : PS} {a0 p1 q1 p3 q3 p5 q5 : Nat} {x1 x2 x3 : Int} (hr1 : S.1 a0 3 = some (0, q1, p1)) (hi2 : 0 ≤ I a0 2 ∧ I a0 2 < (q1 : Nat)) (hr3 : S.1 a0 4 = some (0, q3, p3)) (hi4 : 0 ≤ (up2 I p1 ((I a0 2).toNat) x1) a0 2 ∧ (up2 I p1 ((I a0 2).toNat) x1) a0 2 < (q3 : Nat)) (hr5 : S.1 a0 5 = some (0, q5, p5)) (hi6 : 0 ≤ (up2 (up2 I p1 ((I a0 2).toNat) x1) p3 (((up2 I p1 ((I a0 2).toNat) x1) a0 2).toNat) x2) a0 2 ∧ (up2 (up2 I p1 ((I a0 2).toNat) x1) p3 (((up2 I p1 ((I a0 2).toNat) x1) a0 2).toNat) x2) a0 2 < (q5 : Nat)) (ho7 : -2147483648 ≤ ((up2 (up2 (up2 I p1 ((I a0 2).toNat) x1) p3 (((up2 I p1 ((I a0 2).toNat) x1) a0 2).toNat) x2) p5 (((up2 (up2 I p1 ((I a0 2).toNat) x1) p3 (((up2 I p1 ((I a0 2).toNat) x1) a0 2).toNat) x2) a0 2).toNat) x3) a0 2) + 1 ∧ ((up2 (up2 (up2 I p1 ((I a0 2).toNat) x1) p3 (((up2 I p1 ((I a0 2).toNat) x1) a0 2).toNat) x2) p5 (((up2 (up2 I p1 ((I a0 2).toNat) x1) p3 (((up2 I p1 ((I a0 2).toNat) x1) a0 2).toNat) x2) a0 2).toNat) x3) a0 2) + 1 ≤ 2147483647) : Ev d mX9_keepAct (13, [some (vR (some (19, 0, a0))), some (vI x1), some (vI x2), some (vI x3)], [], (I, S)) (.inl none, ((up2 (up2 (up2 (up2 I p1 ((I a0 2).toNat) x1) p3 (((up2 I p1 ((I a0 2).toNat) x1) a0 2).toNat) x2) p5 (((up2 (up2 I p1 ((I a0 2).toNat) x1) p3 (((up2 I p1 ((I a0 2).toNat) x1) a0 2).toNat) x2) a0 2).toNat) x3) a0 2 (((up2 (up2 (up2 I p1 ((I a0 2).toNat) x1) p3 (((up2 I p1 ((I a0 2).toNat) x1) a0 2).toNat) x2) p5 (((up2 (up2 I p1 ((I a0 2).toNat) x1) p3 (((up2 I p1 ((I a0 2).toNat) x1) a0 2).toNat) x2) a0 2).toNat) x3) a0 2) + 1)), S)) :=
  s_aload_n rfl rfl rfl <|
  s_getR rfl rfl rfl hr1 <|
  s_aload_n rfl rfl rfl <|
  s_getI rfl rfl rfl <|
  s_iload_n rfl rfl rfl <|
  s_iast rfl hi2 <|
  s_aload_n rfl rfl rfl <|
  s_getR rfl rfl rfl hr3 <|
  s_aload_n rfl rfl rfl <|
  s_getI rfl rfl rfl <|
  s_iload_n rfl rfl rfl <|
  s_iast rfl hi4 <|
  s_aload_n rfl rfl rfl <|
  s_getR rfl rfl rfl hr5 <|
  s_aload_n rfl rfl rfl <|
  s_getI rfl rfl rfl <|
  s_iload_n rfl rfl rfl <|
  s_iast rfl hi6 <|
  s_aload_n rfl rfl rfl <|
  s_dup rfl rfl <|
  s_getI rfl rfl rfl <|
  s_iconst rfl rfl <|
  s_iaddp rfl ho7 <|
  s_putI rfl rfl rfl <|
  s_vret rfl rfl
theorem b_X9_dropOldestAct_0 {d : Nat} {I : Nat → Nat → Int} {S : PS} {a0 p1 q1 p4 q4 p7 q7 : Nat} (hr1 : S.1 a0 3 = some (0, q1, p1)) (hc2 : (1 : Int) + 29 ≤ (q1 : Nat)) (hc3 : (0 : Int) + 29 ≤ (q1 : Nat)) (hr4 : S.1 a0 4 = some (0, q4, p4)) (hc5 : (1 : Int) + 29 ≤ (q4 : Nat)) (hc6 : (0 : Int) + 29 ≤ (q4 : Nat)) (hr7 : S.1 a0 5 = some (0, q7, p7)) (hc8 : (1 : Int) + 29 ≤ (q7 : Nat)) (hc9 : (0 : Int) + 29 ≤ (q7 : Nat)) : Ev d mX9_dropOldestAct (0, [some (vR (some (19, 0, a0)))], [], (I, S)) (.inl none, ((up2 (cpyI (cpyI (cpyI I p1 1 p1 0 29) p4 1 p4 0 29) p7 1 p7 0 29) a0 2 29), S)) :=
  s_aload_n rfl rfl rfl <|
  s_getR rfl rfl rfl hr1 <|
  s_iconst rfl rfl <|
  s_aload_n rfl rfl rfl <|
  s_getR rfl rfl rfl hr1 <|
  s_iconst rfl rfl <|
  s_bipush rfl rfl <|
  s_copy rfl rfl (by decide) (by decide) (by decide) hc2 hc3 rfl <|
  s_aload_n rfl rfl rfl <|
  s_getR rfl rfl rfl hr4 <|
  s_iconst rfl rfl <|
  s_aload_n rfl rfl rfl <|
  s_getR rfl rfl rfl hr4 <|
  s_iconst rfl rfl <|
  s_bipush rfl rfl <|
  s_copy rfl rfl (by decide) (by decide) (by decide) hc5 hc6 rfl <|
  s_aload_n rfl rfl rfl <|
  s_getR rfl rfl rfl hr7 <|
  s_iconst rfl rfl <|
  s_aload_n rfl rfl rfl <|
  s_getR rfl rfl rfl hr7 <|
  s_iconst rfl rfl <|
  s_bipush rfl rfl <|
  s_copy rfl rfl (by decide) (by decide) (by decide) hc8 hc9 rfl <|
  s_aload_n rfl rfl rfl <|
  s_bipush rfl rfl <|
  s_putI rfl rfl rfl <|
  s_vret rfl rfl
theorem b_X9_undoLast_0 {d : Nat} {r : PO × PM} {I : Nat → Nat → Int} {S : PS} {a0 : Nat} (kt : 1 ≤ I a0 2 → Ev d mX9_undoLast (9, [some (vR (some (19, 0, a0))), none, none], [], (I, S)) r) (kf : I a0 2 < 1 → Ev d mX9_undoLast (8, [some (vR (some (19, 0, a0))), none, none], [], (I, S)) r) : Ev d mX9_undoLast (0, [some (vR (some (19, 0, a0))), none, none], [], (I, S)) r :=
  s_aload_n rfl rfl rfl <|
  s_getI rfl rfl rfl <|
  s_iconst rfl rfl <|
  s_icmp_ge 9 rfl rfl kt kf
theorem b_X9_undoLast_8 {d : Nat} {I : Nat → Nat → Int} {S : PS} {a0 : Nat} : Ev d mX9_undoLast (8, [some (vR (some (19, 0, a0))), none, none], [], (I, S)) (.inl none, (I, S)) :=
  s_vret rfl rfl
theorem b_X9_undoLast_9 {d : Nat} {r : PO × PM} {I : Nat → Nat → Int} {S : PS} {a0 p2 q2 p4 q4 p6 q6 : Nat} (ho1 : -2147483648 ≤ I a0 2 - 1 ∧ I a0 2 - 1 ≤ 2147483647) (hr2 : S.1 a0 4 = some (0, q2, p2)) (hi3 : 0 ≤ (up2 I a0 2 (I a0 2 - 1)) a0 2 ∧ (up2 I a0 2 (I a0 2 - 1)) a0 2 < (q2 : Nat)) (hr4 : S.1 a0 5 = some (0, q4, p4)) (hi5 : 0 ≤ (up2 I a0 2 (I a0 2 - 1)) a0 2 ∧ (up2 I a0 2 (I a0 2 - 1)) a0 2 < (q4 : Nat)) (hr6 : S.1 a0 3 = some (0, q6, p6)) (hi7 : 0 ≤ (up2 I a0 2 (I a0 2 - 1)) a0 2 ∧ (up2 I a0 2 (I a0 2 - 1)) a0 2 < (q6 : Nat)) (k0 : (up2 I a0 2 (I a0 2 - 1)) p6 ((up2 I a0 2 (I a0 2 - 1)) a0 2).toNat = 0 → Ev d mX9_undoLast (76, [some (vR (some (19, 0, a0))), some (vI ((up2 I a0 2 (I a0 2 - 1)) p2 ((up2 I a0 2 (I a0 2 - 1)) a0 2).toNat)), some (vI ((up2 I a0 2 (I a0 2 - 1)) p4 ((up2 I a0 2 (I a0 2 - 1)) a0 2).toNat))], [], ((up2 I a0 2 (I a0 2 - 1)), S)) r) (k1 : (up2 I a0 2 (I a0 2 - 1)) p6 ((up2 I a0 2 (I a0 2 - 1)) a0 2).toNat = 1 → Ev d mX9_undoLast (88, [some (vR (some (19, 0, a0))), some (vI ((up2 I a0 2 (I a0 2 - 1)) p2 ((up2 I a0 2 (I a0 2 - 1)) a0 2).toNat)), some (vI ((up2 I a0 2 (I a0 2 - 1)) p4 ((up2 I a0 2 (I a0 2 - 1)) a0 2).toNat))], [], ((up2 I a0 2 (I a0 2 - 1)), S)) r) (k2 : (up2 I a0 2 (I a0 2 - 1)) p6 ((up2 I a0 2 (I a0 2 - 1)) a0 2).toNat = 2 → Ev d mX9_undoLast (100, [some (vR (some (19, 0, a0))), some (vI ((up2 I a0 2 (I a0 2 - 1)) p2 ((up2 I a0 2 (I a0 2 - 1)) a0 2).toNat)), some (vI ((up2 I a0 2 (I a0 2 - 1)) p4 ((up2 I a0 2 (I a0 2 - 1)) a0 2).toNat))], [], ((up2 I a0 2 (I a0 2 - 1)), S)) r) (kd : ¬(0 ≤ (up2 I a0 2 (I a0 2 - 1)) p6 ((up2 I a0 2 (I a0 2 - 1)) a0 2).toNat ∧ (up2 I a0 2 (I a0 2 - 1)) p6 ((up2 I a0 2 (I a0 2 - 1)) a0 2).toNat ≤ 2) → Ev d mX9_undoLast (117, [some (vR (some (19, 0, a0))), some (vI ((up2 I a0 2 (I a0 2 - 1)) p2 ((up2 I a0 2 (I a0 2 - 1)) a0 2).toNat)), some (vI ((up2 I a0 2 (I a0 2 - 1)) p4 ((up2 I a0 2 (I a0 2 - 1)) a0 2).toNat))], [], ((up2 I a0 2 (I a0 2 - 1)), S)) r) : Ev d mX9_undoLast (9, [some (vR (some (19, 0, a0))), none, none], [], (I, S)) r :=
  s_aload_n rfl rfl rfl <|
  s_dup rfl rfl <|
  s_getI rfl rfl rfl <|
  s_iconst rfl rfl <|
  s_isubp rfl ho1 <|
  s_putI rfl rfl rfl <|
  s_aload_n rfl rfl rfl <|
  s_getR rfl rfl rfl hr2 <|
  s_aload_n rfl rfl rfl <|
  s_getI rfl rfl rfl <|
  s_iald rfl rfl hi3 <|
  s_istore_n [some (vR (some (19, 0, a0))), some (vI ((up2 I a0 2 (I a0 2 - 1)) p2 ((up2 I a0 2 (I a0 2 - 1)) a0 2).toNat)), none] rfl rfl <|
  s_aload_n rfl rfl rfl <|
  s_getR rfl rfl rfl hr4 <|
  s_aload_n rfl rfl rfl <|
  s_getI rfl rfl rfl <|
  s_iald rfl rfl hi5 <|
  s_istore_n [some (vR (some (19, 0, a0))), some (vI ((up2 I a0 2 (I a0 2 - 1)) p2 ((up2 I a0 2 (I a0 2 - 1)) a0 2).toNat)), some (vI ((up2 I a0 2 (I a0 2 - 1)) p4 ((up2 I a0 2 (I a0 2 - 1)) a0 2).toNat))] rfl rfl <|
  s_aload_n rfl rfl rfl <|
  s_getR rfl rfl rfl hr6 <|
  s_aload_n rfl rfl rfl <|
  s_getI rfl rfl rfl <|
  s_iald rfl rfl hi7 <|
  s_sw 117 rfl (by decide) (fun c => kd c) (fun j hj => by
  match j, hj with
  | 0, _ => exact fun c => k0 c
  | 1, _ => exact fun c => k1 c
  | 2, _ => exact fun c => k2 c
  | j + 3, hj => exact absurd hj (by simp))
theorem b_X9_undoLast_76 {d : Nat} {r : PO × PM} {I : Nat → Nat → Int} {S : PS} {a0 p1 : Nat} {x1 x2 : Int} {I1 : Nat → Nat → Int} {S1 : PS} (hr1 : S.1 a0 0 = some (13, 0, p1)) (c : Ca d mX2_take [vR (some (13, 0, p1)), vI x1, vI x2] (I, S) (.inl none) (I1, S1)) (k : Ev (d + 1) mX9_undoLast (85, [some (vR (some (19, 0, a0))), some (vI x1), some (vI x2)], [], (I1, S1)) r) : Ev (d + 1) mX9_undoLast (76, [some (vR (some (19, 0, a0))), some (vI x1), some (vI x2)], [], (I, S)) r :=
  s_aload_n rfl rfl rfl <|
  s_getR rfl rfl rfl hr1 <|
  s_iload_n rfl rfl rfl <|
  s_iload_n rfl rfl rfl <|
  s_cvV rfl rfl rfl rfl rfl c k
theorem b_X9_undoLast_85 {d : Nat} {r : PO × PM} {I : Nat → Nat → Int} {S : PS} {a0 : Nat} {x1 x2 : Int} (k : Ev d mX9_undoLast (124, [some (vR (some (19, 0, a0))), some (vI x1), some (vI x2)], [], (I, S)) r) : Ev d mX9_undoLast (85, [some (vR (some (19, 0, a0))), some (vI x1), some (vI x2)], [], (I, S)) r :=
  s_goto 124 rfl rfl k
theorem b_X9_undoLast_88 {d : Nat} {r : PO × PM} {I : Nat → Nat → Int} {S : PS} {a0 p1 : Nat} {x1 x2 : Int} {I1 : Nat → Nat → Int} {S1 : PS} (hr1 : S.1 a0 0 = some (13, 0, p1)) (c : Ca d mX2_put [vR (some (13, 0, p1)), vI x1, vI x2] (I, S) (.inl none) (I1, S1)) (k : Ev (d + 1) mX9_undoLast (97, [some (vR (some (19, 0, a0))), some (vI x1), some (vI x2)], [], (I1, S1)) r) : Ev (d + 1) mX9_undoLast (88, [some (vR (some (19, 0, a0))), some (vI x1), some (vI x2)], [], (I, S)) r :=
  s_aload_n rfl rfl rfl <|
  s_getR rfl rfl rfl hr1 <|
  s_iload_n rfl rfl rfl <|
  s_iload_n rfl rfl rfl <|
  s_cvV rfl rfl rfl rfl rfl c k
theorem b_X9_undoLast_97 {d : Nat} {r : PO × PM} {I : Nat → Nat → Int} {S : PS} {a0 : Nat} {x1 x2 : Int} (k : Ev d mX9_undoLast (124, [some (vR (some (19, 0, a0))), some (vI x1), some (vI x2)], [], (I, S)) r) : Ev d mX9_undoLast (97, [some (vR (some (19, 0, a0))), some (vI x1), some (vI x2)], [], (I, S)) r :=
  s_goto 124 rfl rfl k
theorem b_X9_undoLast_100 {d : Nat} {r : PO × PM} {I : Nat → Nat → Int} {S : PS} {a0 p1 : Nat} {x1 x2 : Int} {I1 : Nat → Nat → Int} {S1 : PS} (hr1 : S.1 a0 0 = some (13, 0, p1)) (hd2 : (0 ≤ x2 ∧ x2 ≤ 2147483647) ∧ 0 < (4 : Int) ∧ (4 : Int) ≤ 2147483647) (hd3 : (0 ≤ x2 ∧ x2 ≤ 2147483647) ∧ 0 < (4 : Int) ∧ (4 : Int) ≤ 2147483647) (c : Ca d mX2_exchange [vR (some (13, 0, p1)), vI x1, vI (x2 / 4), vI (x2 % 4)] (I, S) (.inl none) (I1, S1)) (k : Ev (d + 1) mX9_undoLast (114, [some (vR (some (19, 0, a0))), some (vI x1), some (vI x2)], [], (I1, S1)) r) : Ev (d + 1) mX9_undoLast (100, [some (vR (some (19, 0, a0))), some (vI x1), some (vI x2)], [], (I, S)) r :=
  s_aload_n rfl rfl rfl <|
  s_getR rfl rfl rfl hr1 <|
  s_iload_n rfl rfl rfl <|
  s_iload_n rfl rfl rfl <|
  s_iconst rfl rfl <|
  s_idivp rfl hd2 <|
  s_iload_n rfl rfl rfl <|
  s_iconst rfl rfl <|
  s_iremp rfl hd3 <|
  s_cvV rfl rfl rfl rfl rfl c k
theorem b_X9_undoLast_114 {d : Nat} {r : PO × PM} {I : Nat → Nat → Int} {S : PS} {a0 : Nat} {x1 x2 : Int} (k : Ev d mX9_undoLast (124, [some (vR (some (19, 0, a0))), some (vI x1), some (vI x2)], [], (I, S)) r) : Ev d mX9_undoLast (114, [some (vR (some (19, 0, a0))), some (vI x1), some (vI x2)], [], (I, S)) r :=
  s_goto 124 rfl rfl k
theorem b_X9_undoLast_117 {d : Nat} {r : PO × PM} {I : Nat → Nat → Int} {S : PS} {a0 p1 q1 : Nat} {x1 x2 : Int} (hr1 : S.1 a0 1 = some (0, q1, p1)) (hi2 : 0 ≤ x1 ∧ x1 < (q1 : Nat)) (k : Ev d mX9_undoLast (124, [some (vR (some (19, 0, a0))), some (vI x1), some (vI x2)], [], ((up2 I p1 (x1.toNat) x2), S)) r) : Ev d mX9_undoLast (117, [some (vR (some (19, 0, a0))), some (vI x1), some (vI x2)], [], (I, S)) r :=
  s_aload_n rfl rfl rfl <|
  s_getR rfl rfl rfl hr1 <|
  s_iload_n rfl rfl rfl <|
  s_iload_n rfl rfl rfl <|
  s_iast rfl hi2 <|
  k
theorem b_X9_undoLast_124 {d : Nat} {I : Nat → Nat → Int} {S : PS} {a0 : Nat} {x1 x2 : Int} : Ev d mX9_undoLast (124, [some (vR (some (19, 0, a0))), some (vI x1), some (vI x2)], [], (I, S)) (.inl none, (I, S)) :=
  s_vret rfl rfl
theorem b_X9_keepNote_0 {d : Nat} {r : PO × PM} {I : Nat → Nat → Int} {S : PS} {a0 : Nat} {x1 x2 : Int} (kt : 8 ≤ I a0 6 → Ev d mX9_keepNote (39, [some (vR (some (19, 0, a0))), some (vI x1), some (vI x2)], [], (I, S)) r) (kf : I a0 6 < 8 → Ev d mX9_keepNote (9, [some (vR (some (19, 0, a0))), some (vI x1), some (vI x2)], [], (I, S)) r) : Ev d mX9_keepNote (0, [some (vR (some (19, 0, a0))), some (vI x1), some (vI x2)], [], (I, S)) r :=
  s_aload_n rfl rfl rfl <|
  s_getI rfl rfl rfl <|
  s_bipush rfl rfl <|
  s_icmp_ge 39 rfl rfl kt kf
theorem b_X9_keepNote_9 {d : Nat} {r : PO × PM} {I : Nat → Nat → Int} {S : PS} {a0 p1 q1 p3 q3 : Nat} {x1 x2 : Int} (hr1 : S.1 a0 7 = some (0, q1, p1)) (hi2 : 0 ≤ I a0 6 ∧ I a0 6 < (q1 : Nat)) (hr3 : S.1 a0 8 = some (0, q3, p3)) (hi4 : 0 ≤ (up2 I p1 ((I a0 6).toNat) x1) a0 6 ∧ (up2 I p1 ((I a0 6).toNat) x1) a0 6 < (q3 : Nat)) (ho5 : -2147483648 ≤ ((up2 (up2 I p1 ((I a0 6).toNat) x1) p3 (((up2 I p1 ((I a0 6).toNat) x1) a0 6).toNat) x2) a0 6) + 1 ∧ ((up2 (up2 I p1 ((I a0 6).toNat) x1) p3 (((up2 I p1 ((I a0 6).toNat) x1) a0 6).toNat) x2) a0 6) + 1 ≤ 2147483647) (k : Ev d mX9_keepNote (39, [some (vR (some (19, 0, a0))), some (vI x1), some (vI x2)], [], ((up2 (up2 (up2 I p1 ((I a0 6).toNat) x1) p3 (((up2 I p1 ((I a0 6).toNat) x1) a0 6).toNat) x2) a0 6 (((up2 (up2 I p1 ((I a0 6).toNat) x1) p3 (((up2 I p1 ((I a0 6).toNat) x1) a0 6).toNat) x2) a0 6) + 1)), S)) r) : Ev d mX9_keepNote (9, [some (vR (some (19, 0, a0))), some (vI x1), some (vI x2)], [], (I, S)) r :=
  s_aload_n rfl rfl rfl <|
  s_getR rfl rfl rfl hr1 <|
  s_aload_n rfl rfl rfl <|
  s_getI rfl rfl rfl <|
  s_iload_n rfl rfl rfl <|
  s_iast rfl hi2 <|
  s_aload_n rfl rfl rfl <|
  s_getR rfl rfl rfl hr3 <|
  s_aload_n rfl rfl rfl <|
  s_getI rfl rfl rfl <|
  s_iload_n rfl rfl rfl <|
  s_iast rfl hi4 <|
  s_aload_n rfl rfl rfl <|
  s_dup rfl rfl <|
  s_getI rfl rfl rfl <|
  s_iconst rfl rfl <|
  s_iaddp rfl ho5 <|
  s_putI rfl rfl rfl <|
  k
theorem b_X9_keepNote_39 {d : Nat} {I : Nat → Nat → Int} {S : PS} {a0 : Nat} {x1 x2 : Int} : Ev d mX9_keepNote (39, [some (vR (some (19, 0, a0))), some (vI x1), some (vI x2)], [], (I, S)) (.inl none, (I, S)) :=
  s_vret rfl rfl
theorem b_X10_init_0 {d : Nat} {h : PM} {a0 : Nat} : Ev d mX10_init (0, [some (vR (some (20, 0, a0)))], [], h) (.inl none, m_si (m_si (m_si (m_si (m_si (m_sr (m_new h 1 700 700) a0 0 (some (1, 700, (m_sz h)))) a0 1 0) a0 2 0) a0 3 0) a0 4 0) a0 5 0) :=
  s_aload_n rfl rfl rfl <|
  s_obj rfl rfl rfl <|
  s_aload_n rfl rfl rfl <|
  s_sipush rfl rfl <|
  s_newa (n := 700) rfl (Or.inr (Or.inl ⟨rfl, rfl⟩)) (by decide) <|
  s_putR rfl rfl rfl <|
  s_aload_n rfl rfl rfl <|
  s_iconst rfl rfl <|
  s_putI rfl rfl rfl <|
  s_aload_n rfl rfl rfl <|
  s_iconst rfl rfl <|
  s_putI rfl rfl rfl <|
  s_aload_n rfl rfl rfl <|
  s_iconst rfl rfl <|
  s_putI rfl rfl rfl <|
  s_aload_n rfl rfl rfl <|
  s_iconst rfl rfl <|
  s_putI rfl rfl rfl <|
  s_aload_n rfl rfl rfl <|
  s_iconst rfl rfl <|
  s_putI rfl rfl rfl <|
  s_vret rfl rfl
theorem b_X10_begin_0 {d : Nat} {I : Nat → Nat → Int} {S : PS} {a0 : Nat} {x1 : Int} : Ev d mX10_begin (0, [some (vR (some (20, 0, a0))), some (vI x1)], [], (I, S)) (.inl none, ((up2 (up2 I a0 1 (p_min x1 700)) a0 2 0), S)) :=
  s_aload_n rfl rfl rfl <|
  s_iload_n rfl rfl rfl <|
  s_sipush rfl rfl <|
  s_mm rfl rfl (Or.inr ⟨rfl, rfl⟩) rfl <|
  s_putI rfl rfl rfl <|
  s_aload_n rfl rfl rfl <|
  s_iconst rfl rfl <|
  s_putI rfl rfl rfl <|
  s_vret rfl rfl
theorem b_X10_advance_0 {d : Nat} {r : PO × PM} {I : Nat → Nat → Int} {S : PS} {a0 : Nat} (kt : I a0 1 ≤ I a0 2 → Ev d mX10_advance (36, [some (vR (some (20, 0, a0)))], [], (I, S)) r) (kf : I a0 2 < I a0 1 → Ev d mX10_advance (11, [some (vR (some (20, 0, a0)))], [], (I, S)) r) : Ev d mX10_advance (0, [some (vR (some (20, 0, a0)))], [], (I, S)) r :=
  s_aload_n rfl rfl rfl <|
  s_getI rfl rfl rfl <|
  s_aload_n rfl rfl rfl <|
  s_getI rfl rfl rfl <|
  s_icmp_ge 36 rfl rfl kt kf
theorem b_X10_advance_11 {d : Nat} {r : PO × PM} {I : Nat → Nat → Int} {S : PS} {a0 : Nat} {I1 : Nat → Nat → Int} {S1 : PS} {z : Int} (c : Ca d mX10_kindAt [vR (some (20, 0, a0)), vI (I a0 2)] (I, S) (.inl (some (vI z))) (I1, S1)) (k : Ev (d + 1) mX10_advance (19, [some (vR (some (20, 0, a0)))], [vI z], (I1, S1)) r) : Ev (d + 1) mX10_advance (11, [some (vR (some (20, 0, a0)))], [], (I, S)) r :=
  s_aload_n rfl rfl rfl <|
  s_aload_n rfl rfl rfl <|
  s_getI rfl rfl rfl <|
  s_cvI rfl rfl rfl rfl rfl c k
theorem b_X10_advance_19 {d : Nat} {r : PO × PM} {I : Nat → Nat → Int} {S : PS} {a0 : Nat} {xs0 : Int} (kt : xs0 ≠ 4 → Ev d mX10_advance (36, [some (vR (some (20, 0, a0)))], [], (I, S)) r) (kf : xs0 = 4 → Ev d mX10_advance (23, [some (vR (some (20, 0, a0)))], [], (I, S)) r) : Ev d mX10_advance (19, [some (vR (some (20, 0, a0)))], [vI xs0], (I, S)) r :=
  s_iconst rfl rfl <|
  s_icmp_ne 36 rfl rfl kt kf
theorem b_X10_advance_23 {d : Nat} {r : PO × PM} {I : Nat → Nat → Int} {S : PS} {a0 : Nat} (ho1 : -2147483648 ≤ I a0 2 + 1 ∧ I a0 2 + 1 ≤ 2147483647) (k : Ev d mX10_advance (0, [some (vR (some (20, 0, a0)))], [], ((up2 I a0 2 (I a0 2 + 1)), S)) r) : Ev d mX10_advance (23, [some (vR (some (20, 0, a0)))], [], (I, S)) r :=
  s_aload_n rfl rfl rfl <|
  s_dup rfl rfl <|
  s_getI rfl rfl rfl <|
  s_iconst rfl rfl <|
  s_iaddp rfl ho1 <|
  s_putI rfl rfl rfl <|
  s_goto 0 rfl rfl k
theorem b_X10_advance_36 {d : Nat} {r : PO × PM} {I : Nat → Nat → Int} {S : PS} {a0 : Nat} {I1 : Nat → Nat → Int} {S1 : PS} {z : Int} (c : Ca d mX10_kindAt [vR (some (20, 0, a0)), vI ((up2 (up2 I a0 4 (I a0 2)) a0 5 0) a0 2)] ((up2 (up2 I a0 4 (I a0 2)) a0 5 0), S) (.inl (some (vI z))) (I1, S1)) (k : Ev (d + 1) mX10_advance (58, [some (vR (some (20, 0, a0)))], [vI z, vR (some (20, 0, a0))], (I1, S1)) r) : Ev (d + 1) mX10_advance (36, [some (vR (some (20, 0, a0)))], [], (I, S)) r :=
  s_aload_n rfl rfl rfl <|
  s_aload_n rfl rfl rfl <|
  s_getI rfl rfl rfl <|
  s_putI rfl rfl rfl <|
  s_aload_n rfl rfl rfl <|
  s_iconst rfl rfl <|
  s_putI rfl rfl rfl <|
  s_aload_n rfl rfl rfl <|
  s_aload_n rfl rfl rfl <|
  s_aload_n rfl rfl rfl <|
  s_getI rfl rfl rfl <|
  s_cvI rfl rfl rfl rfl rfl c k
theorem b_X10_advance_58 {d : Nat} {r : PO × PM} {I : Nat → Nat → Int} {S : PS} {a0 as0 : Nat} {xs1 : Int} (kt : (up2 I as0 3 xs1) a0 3 = 1 → Ev d mX10_advance (102, [some (vR (some (20, 0, a0)))], [], ((up2 I as0 3 xs1), S)) r) (kf : (up2 I as0 3 xs1) a0 3 ≠ 1 → Ev d mX10_advance (69, [some (vR (some (20, 0, a0)))], [], ((up2 I as0 3 xs1), S)) r) : Ev d mX10_advance (58, [some (vR (some (20, 0, a0)))], [vI xs1, vR (some (20, 0, as0))], (I, S)) r :=
  s_putI rfl rfl rfl <|
  s_aload_n rfl rfl rfl <|
  s_getI rfl rfl rfl <|
  s_iconst rfl rfl <|
  s_icmp_eq 102 rfl rfl kt kf
theorem b_X10_advance_69 {d : Nat} {r : PO × PM} {I : Nat → Nat → Int} {S : PS} {a0 : Nat} (kt : I a0 3 = 2 → Ev d mX10_advance (102, [some (vR (some (20, 0, a0)))], [], (I, S)) r) (kf : I a0 3 ≠ 2 → Ev d mX10_advance (77, [some (vR (some (20, 0, a0)))], [], (I, S)) r) : Ev d mX10_advance (69, [some (vR (some (20, 0, a0)))], [], (I, S)) r :=
  s_aload_n rfl rfl rfl <|
  s_getI rfl rfl rfl <|
  s_iconst rfl rfl <|
  s_icmp_eq 102 rfl rfl kt kf
theorem b_X10_advance_77 {d : Nat} {r : PO × PM} {I : Nat → Nat → Int} {S : PS} {a0 : Nat} (kt : I a0 3 ≠ 0 → Ev d mX10_advance (92, [some (vR (some (20, 0, a0)))], [vR (some (20, 0, a0))], (I, S)) r) (kf : I a0 3 = 0 → Ev d mX10_advance (85, [some (vR (some (20, 0, a0)))], [vR (some (20, 0, a0))], (I, S)) r) : Ev d mX10_advance (77, [some (vR (some (20, 0, a0)))], [], (I, S)) r :=
  s_aload_n rfl rfl rfl <|
  s_aload_n rfl rfl rfl <|
  s_getI rfl rfl rfl <|
  s_if_ne 92 rfl rfl kt kf
theorem b_X10_advance_85 {d : Nat} {r : PO × PM} {I : Nat → Nat → Int} {S : PS} {a0 as0 : Nat} (k : Ev d mX10_advance (98, [some (vR (some (20, 0, a0)))], [vI (I a0 2), vR (some (20, 0, as0))], (I, S)) r) : Ev d mX10_advance (85, [some (vR (some (20, 0, a0)))], [vR (some (20, 0, as0))], (I, S)) r :=
  s_aload_n rfl rfl rfl <|
  s_getI rfl rfl rfl <|
  s_goto 98 rfl rfl k
theorem b_X10_advance_92 {d : Nat} {r : PO × PM} {I : Nat → Nat → Int} {S : PS} {a0 as0 : Nat} (ho1 : -2147483648 ≤ I a0 2 + 1 ∧ I a0 2 + 1 ≤ 2147483647) (k : Ev d mX10_advance (98, [some (vR (some (20, 0, a0)))], [vI (I a0 2 + 1), vR (some (20, 0, as0))], (I, S)) r) : Ev d mX10_advance (92, [some (vR (some (20, 0, a0)))], [vR (some (20, 0, as0))], (I, S)) r :=
  s_aload_n rfl rfl rfl <|
  s_getI rfl rfl rfl <|
  s_iconst rfl rfl <|
  s_iaddp rfl ho1 <|
  k
theorem b_X10_advance_98 {d : Nat} {I : Nat → Nat → Int} {S : PS} {a0 as0 : Nat} {xs1 : Int} : Ev d mX10_advance (98, [some (vR (some (20, 0, a0)))], [vI xs1, vR (some (20, 0, as0))], (I, S)) (.inl none, ((up2 I as0 2 xs1), S)) :=
  s_putI rfl rfl rfl <|
  s_vret rfl rfl
theorem b_X10_advance_102 {d : Nat} {r : PO × PM} {I : Nat → Nat → Int} {S : PS} {a0 : Nat} (kt : I a0 1 ≤ I a0 2 → Ev d mX10_advance (183, [some (vR (some (20, 0, a0)))], [], (I, S)) r) (kf : I a0 2 < I a0 1 → Ev d mX10_advance (113, [some (vR (some (20, 0, a0)))], [], (I, S)) r) : Ev d mX10_advance (102, [some (vR (some (20, 0, a0)))], [], (I, S)) r :=
  s_aload_n rfl rfl rfl <|
  s_getI rfl rfl rfl <|
  s_aload_n rfl rfl rfl <|
  s_getI rfl rfl rfl <|
  s_icmp_ge 183 rfl rfl kt kf
theorem b_X10_advance_113 {d : Nat} {r : PO × PM} {I : Nat → Nat → Int} {S : PS} {a0 : Nat} {I1 : Nat → Nat → Int} {S1 : PS} {z : Int} (c : Ca d mX10_kindAt [vR (some (20, 0, a0)), vI (I a0 2)] (I, S) (.inl (some (vI z))) (I1, S1)) (k : Ev (d + 1) mX10_advance (121, [some (vR (some (20, 0, a0)))], [vI z], (I1, S1)) r) : Ev (d + 1) mX10_advance (113, [some (vR (some (20, 0, a0)))], [], (I, S)) r :=
  s_aload_n rfl rfl rfl <|
  s_aload_n rfl rfl rfl <|
  s_getI rfl rfl rfl <|
  s_cvI rfl rfl rfl rfl rfl c k
theorem b_X10_advance_121 {d : Nat} {r : PO × PM} {I : Nat → Nat → Int} {S : PS} {a0 : Nat} {xs0 : Int} (kt : xs0 ≠ I a0 3 → Ev d mX10_advance (183, [some (vR (some (20, 0, a0)))], [], (I, S)) r) (kf : xs0 = I a0 3 → Ev d mX10_advance (128, [some (vR (some (20, 0, a0)))], [], (I, S)) r) : Ev d mX10_advance (121, [some (vR (some (20, 0, a0)))], [vI xs0], (I, S)) r :=
  s_aload_n rfl rfl rfl <|
  s_getI rfl rfl rfl <|
  s_icmp_ne 183 rfl rfl kt kf
theorem b_X10_advance_128 {d : Nat} {r : PO × PM} {I : Nat → Nat → Int} {S : PS} {a0 : Nat} (kt : I a0 3 ≠ 2 → Ev d mX10_advance (166, [some (vR (some (20, 0, a0)))], [vR (some (20, 0, a0))], (I, S)) r) (kf : I a0 3 = 2 → Ev d mX10_advance (137, [some (vR (some (20, 0, a0)))], [vR (some (20, 0, a0))], (I, S)) r) : Ev d mX10_advance (128, [some (vR (some (20, 0, a0)))], [], (I, S)) r :=
  s_aload_n rfl rfl rfl <|
  s_aload_n rfl rfl rfl <|
  s_getI rfl rfl rfl <|
  s_iconst rfl rfl <|
  s_icmp_ne 166 rfl rfl kt kf
theorem b_X10_advance_137 {d : Nat} {r : PO × PM} {I : Nat → Nat → Int} {S : PS} {a0 as0 p2 q2 : Nat} (ho1 : -2147483648 ≤ (I a0 5) * 10 ∧ (I a0 5) * 10 ≤ 2147483647) (hr2 : S.1 a0 0 = some (1, q2, p2)) (hi3 : 0 ≤ I a0 2 ∧ I a0 2 < (q2 : Nat)) (ho4 : -2147483648 ≤ ((I a0 5) * 10) + (I p2 (I a0 2).toNat) ∧ ((I a0 5) * 10) + (I p2 (I a0 2).toNat) ≤ 2147483647) (ho5 : -2147483648 ≤ (((I a0 5) * 10) + (I p2 (I a0 2).toNat)) - 48 ∧ (((I a0 5) * 10) + (I p2 (I a0 2).toNat)) - 48 ≤ 2147483647) (k : Ev d mX10_advance (167, [some (vR (some (20, 0, a0)))], [vI (p_min ((((I a0 5) * 10) + (I p2 (I a0 2).toNat)) - 48) 10000), vR (some (20, 0, as0))], (I, S)) r) : Ev d mX10_advance (137, [some (vR (some (20, 0, a0)))], [vR (some (20, 0, as0))], (I, S)) r :=
  s_aload_n rfl rfl rfl <|
  s_getI rfl rfl rfl <|
  s_bipush rfl rfl <|
  s_imulp rfl ho1 <|
  s_aload_n rfl rfl rfl <|
  s_getR rfl rfl rfl hr2 <|
  s_aload_n rfl rfl rfl <|
  s_getI rfl rfl rfl <|
  s_bald rfl rfl hi3 <|
  s_iaddp rfl ho4 <|
  s_bipush rfl rfl <|
  s_isubp rfl ho5 <|
  s_sipush rfl rfl <|
  s_mm rfl rfl (Or.inr ⟨rfl, rfl⟩) rfl <|
  s_goto 167 rfl rfl k
theorem b_X10_advance_166 {d : Nat} {r : PO × PM} {I : Nat → Nat → Int} {S : PS} {a0 as0 : Nat} (k : Ev d mX10_advance (167, [some (vR (some (20, 0, a0)))], [vI 0, vR (some (20, 0, as0))], (I, S)) r) : Ev d mX10_advance (166, [some (vR (some (20, 0, a0)))], [vR (some (20, 0, as0))], (I, S)) r :=
  s_iconst rfl rfl <|
  k
theorem b_X10_advance_167 {d : Nat} {r : PO × PM} {I : Nat → Nat → Int} {S : PS} {a0 as0 : Nat} {xs1 : Int} (ho1 : -2147483648 ≤ ((up2 I as0 5 xs1) a0 2) + 1 ∧ ((up2 I as0 5 xs1) a0 2) + 1 ≤ 2147483647) (k : Ev d mX10_advance (102, [some (vR (some (20, 0, a0)))], [], ((up2 (up2 I as0 5 xs1) a0 2 (((up2 I as0 5 xs1) a0 2) + 1)), S)) r) : Ev d mX10_advance (167, [some (vR (some (20, 0, a0)))], [vI xs1, vR (some (20, 0, as0))], (I, S)) r :=
  s_putI rfl rfl rfl <|
  s_aload_n rfl rfl rfl <|
  s_dup rfl rfl <|
  s_getI rfl rfl rfl <|
  s_iconst rfl rfl <|
  s_iaddp rfl ho1 <|
  s_putI rfl rfl rfl <|
  s_goto 102 rfl rfl k
theorem b_X10_advance_183 {d : Nat} {r : PO × PM} {I : Nat → Nat → Int} {S : PS} {a0 : Nat} (kt : I a0 3 ≠ 2 → Ev d mX10_advance (211, [some (vR (some (20, 0, a0)))], [], (I, S)) r) (kf : I a0 3 = 2 → Ev d mX10_advance (191, [some (vR (some (20, 0, a0)))], [], (I, S)) r) : Ev d mX10_advance (183, [some (vR (some (20, 0, a0)))], [], (I, S)) r :=
  s_aload_n rfl rfl rfl <|
  s_getI rfl rfl rfl <|
  s_iconst rfl rfl <|
  s_icmp_ne 211 rfl rfl kt kf
theorem b_X10_advance_191 {d : Nat} {r : PO × PM} {I : Nat → Nat → Int} {S : PS} {a0 : Nat} (ho1 : -2147483648 ≤ I a0 2 - (I a0 4) ∧ I a0 2 - (I a0 4) ≤ 2147483647) (kt : I a0 2 - (I a0 4) ≤ 4 → Ev d mX10_advance (211, [some (vR (some (20, 0, a0)))], [], (I, S)) r) (kf : 4 < I a0 2 - (I a0 4) → Ev d mX10_advance (204, [some (vR (some (20, 0, a0)))], [], (I, S)) r) : Ev d mX10_advance (191, [some (vR (some (20, 0, a0)))], [], (I, S)) r :=
  s_aload_n rfl rfl rfl <|
  s_getI rfl rfl rfl <|
  s_aload_n rfl rfl rfl <|
  s_getI rfl rfl rfl <|
  s_isubp rfl ho1 <|
  s_iconst rfl rfl <|
  s_icmp_le 211 rfl rfl kt kf
theorem b_X10_advance_204 {d : Nat} {r : PO × PM} {I : Nat → Nat → Int} {S : PS} {a0 : Nat} (k : Ev d mX10_advance (211, [some (vR (some (20, 0, a0)))], [], ((up2 I a0 5 10000), S)) r) : Ev d mX10_advance (204, [some (vR (some (20, 0, a0)))], [], (I, S)) r :=
  s_aload_n rfl rfl rfl <|
  s_sipush rfl rfl <|
  s_putI rfl rfl rfl <|
  k
theorem b_X10_advance_211 {d : Nat} {I : Nat → Nat → Int} {S : PS} {a0 : Nat} : Ev d mX10_advance (211, [some (vR (some (20, 0, a0)))], [], (I, S)) (.inl none, (I, S)) :=
  s_vret rfl rfl
theorem b_X10_kindAt_0 {d : Nat} {r : PO × PM} {I : Nat → Nat → Int} {S : PS} {a0 : Nat} {x1 : Int} (kt : x1 < I a0 1 → Ev d mX10_kindAt (10, [some (vR (some (20, 0, a0))), some (vI x1), none], [], (I, S)) r) (kf : I a0 1 ≤ x1 → Ev d mX10_kindAt (8, [some (vR (some (20, 0, a0))), some (vI x1), none], [], (I, S)) r) : Ev d mX10_kindAt (0, [some (vR (some (20, 0, a0))), some (vI x1), none], [], (I, S)) r :=
  s_iload_n rfl rfl rfl <|
  s_aload_n rfl rfl rfl <|
  s_getI rfl rfl rfl <|
  s_icmp_lt 10 rfl rfl kt kf
theorem b_X10_kindAt_8 {d : Nat} {I : Nat → Nat → Int} {S : PS} {a0 : Nat} {x1 : Int} : Ev d mX10_kindAt (8, [some (vR (some (20, 0, a0))), some (vI x1), none], [], (I, S)) (.inl (some (vI 0)), (I, S)) :=
  s_iconst rfl rfl <|
  s_ret rfl rfl
theorem b_X10_kindAt_10 {d : Nat} {r : PO × PM} {I : Nat → Nat → Int} {S : PS} {a0 p1 q1 : Nat} {x1 : Int} (hr1 : S.1 a0 0 = some (1, q1, p1)) (hi2 : 0 ≤ x1 ∧ x1 < (q1 : Nat)) (kt : I p1 x1.toNat < 97 → Ev d mX10_kindAt (31, [some (vR (some (20, 0, a0))), some (vI x1), some (vI (I p1 x1.toNat))], [], (I, S)) r) (kf : 97 ≤ I p1 x1.toNat → Ev d mX10_kindAt (23, [some (vR (some (20, 0, a0))), some (vI x1), some (vI (I p1 x1.toNat))], [], (I, S)) r) : Ev d mX10_kindAt (10, [some (vR (some (20, 0, a0))), some (vI x1), none], [], (I, S)) r :=
  s_aload_n rfl rfl rfl <|
  s_getR rfl rfl rfl hr1 <|
  s_iload_n rfl rfl rfl <|
  s_bald rfl rfl hi2 <|
  s_istore_n [some (vR (some (20, 0, a0))), some (vI x1), some (vI (I p1 x1.toNat))] rfl rfl <|
  s_iload_n rfl rfl rfl <|
  s_bipush rfl rfl <|
  s_icmp_lt 31 rfl rfl kt kf
theorem b_X10_kindAt_23 {d : Nat} {r : PO × PM} {I : Nat → Nat → Int} {S : PS} {a0 : Nat} {x1 x2 : Int} (kt : 122 < x2 → Ev d mX10_kindAt (31, [some (vR (some (20, 0, a0))), some (vI x1), some (vI x2)], [], (I, S)) r) (kf : x2 ≤ 122 → Ev d mX10_kindAt (29, [some (vR (some (20, 0, a0))), some (vI x1), some (vI x2)], [], (I, S)) r) : Ev d mX10_kindAt (23, [some (vR (some (20, 0, a0))), some (vI x1), some (vI x2)], [], (I, S)) r :=
  s_iload_n rfl rfl rfl <|
  s_bipush rfl rfl <|
  s_icmp_gt 31 rfl rfl kt kf
theorem b_X10_kindAt_29 {d : Nat} {I : Nat → Nat → Int} {S : PS} {a0 : Nat} {x1 x2 : Int} : Ev d mX10_kindAt (29, [some (vR (some (20, 0, a0))), some (vI x1), some (vI x2)], [], (I, S)) (.inl (some (vI 1)), (I, S)) :=
  s_iconst rfl rfl <|
  s_ret rfl rfl
theorem b_X10_kindAt_31 {d : Nat} {r : PO × PM} {I : Nat → Nat → Int} {S : PS} {a0 : Nat} {x1 x2 : Int} (kt : x2 < 48 → Ev d mX10_kindAt (45, [some (vR (some (20, 0, a0))), some (vI x1), some (vI x2)], [], (I, S)) r) (kf : 48 ≤ x2 → Ev d mX10_kindAt (37, [some (vR (some (20, 0, a0))), some (vI x1), some (vI x2)], [], (I, S)) r) : Ev d mX10_kindAt (31, [some (vR (some (20, 0, a0))), some (vI x1), some (vI x2)], [], (I, S)) r :=
  s_iload_n rfl rfl rfl <|
  s_bipush rfl rfl <|
  s_icmp_lt 45 rfl rfl kt kf
theorem b_X10_kindAt_37 {d : Nat} {r : PO × PM} {I : Nat → Nat → Int} {S : PS} {a0 : Nat} {x1 x2 : Int} (kt : 57 < x2 → Ev d mX10_kindAt (45, [some (vR (some (20, 0, a0))), some (vI x1), some (vI x2)], [], (I, S)) r) (kf : x2 ≤ 57 → Ev d mX10_kindAt (43, [some (vR (some (20, 0, a0))), some (vI x1), some (vI x2)], [], (I, S)) r) : Ev d mX10_kindAt (37, [some (vR (some (20, 0, a0))), some (vI x1), some (vI x2)], [], (I, S)) r :=
  s_iload_n rfl rfl rfl <|
  s_bipush rfl rfl <|
  s_icmp_gt 45 rfl rfl kt kf
theorem b_X10_kindAt_43 {d : Nat} {I : Nat → Nat → Int} {S : PS} {a0 : Nat} {x1 x2 : Int} : Ev d mX10_kindAt (43, [some (vR (some (20, 0, a0))), some (vI x1), some (vI x2)], [], (I, S)) (.inl (some (vI 2)), (I, S)) :=
  s_iconst rfl rfl <|
  s_ret rfl rfl
theorem b_X10_kindAt_45 {d : Nat} {r : PO × PM} {I : Nat → Nat → Int} {S : PS} {a0 : Nat} {x1 x2 : Int} (kt : x2 = 32 → Ev d mX10_kindAt (57, [some (vR (some (20, 0, a0))), some (vI x1), some (vI x2)], [], (I, S)) r) (kf : x2 ≠ 32 → Ev d mX10_kindAt (51, [some (vR (some (20, 0, a0))), some (vI x1), some (vI x2)], [], (I, S)) r) : Ev d mX10_kindAt (45, [some (vR (some (20, 0, a0))), some (vI x1), some (vI x2)], [], (I, S)) r :=
  s_iload_n rfl rfl rfl <|
  s_bipush rfl rfl <|
  s_icmp_eq 57 rfl rfl kt kf
theorem b_X10_kindAt_51 {d : Nat} {r : PO × PM} {I : Nat → Nat → Int} {S : PS} {a0 : Nat} {x1 x2 : Int} (kt : x2 ≠ 10 → Ev d mX10_kindAt (59, [some (vR (some (20, 0, a0))), some (vI x1), some (vI x2)], [], (I, S)) r) (kf : x2 = 10 → Ev d mX10_kindAt (57, [some (vR (some (20, 0, a0))), some (vI x1), some (vI x2)], [], (I, S)) r) : Ev d mX10_kindAt (51, [some (vR (some (20, 0, a0))), some (vI x1), some (vI x2)], [], (I, S)) r :=
  s_iload_n rfl rfl rfl <|
  s_bipush rfl rfl <|
  s_icmp_ne 59 rfl rfl kt kf
theorem b_X10_kindAt_57 {d : Nat} {I : Nat → Nat → Int} {S : PS} {a0 : Nat} {x1 x2 : Int} : Ev d mX10_kindAt (57, [some (vR (some (20, 0, a0))), some (vI x1), some (vI x2)], [], (I, S)) (.inl (some (vI 4)), (I, S)) :=
  s_iconst rfl rfl <|
  s_ret rfl rfl
theorem b_X10_kindAt_59 {d : Nat} {r : PO × PM} {I : Nat → Nat → Int} {S : PS} {a0 : Nat} {x1 x2 : Int} (kt : x2 ≠ 59 → Ev d mX10_kindAt (69, [some (vR (some (20, 0, a0))), some (vI x1), some (vI x2)], [], (I, S)) r) (kf : x2 = 59 → Ev d mX10_kindAt (65, [some (vR (some (20, 0, a0))), some (vI x1), some (vI x2)], [], (I, S)) r) : Ev d mX10_kindAt (59, [some (vR (some (20, 0, a0))), some (vI x1), some (vI x2)], [], (I, S)) r :=
  s_iload_n rfl rfl rfl <|
  s_bipush rfl rfl <|
  s_icmp_ne 69 rfl rfl kt kf
theorem b_X10_kindAt_65 {d : Nat} {r : PO × PM} {I : Nat → Nat → Int} {S : PS} {a0 : Nat} {x1 x2 : Int} (k : Ev d mX10_kindAt (70, [some (vR (some (20, 0, a0))), some (vI x1), some (vI x2)], [vI 3], (I, S)) r) : Ev d mX10_kindAt (65, [some (vR (some (20, 0, a0))), some (vI x1), some (vI x2)], [], (I, S)) r :=
  s_iconst rfl rfl <|
  s_goto 70 rfl rfl k
theorem b_X10_kindAt_69 {d : Nat} {r : PO × PM} {I : Nat → Nat → Int} {S : PS} {a0 : Nat} {x1 x2 : Int} (k : Ev d mX10_kindAt (70, [some (vR (some (20, 0, a0))), some (vI x1), some (vI x2)], [vI 5], (I, S)) r) : Ev d mX10_kindAt (69, [some (vR (some (20, 0, a0))), some (vI x1), some (vI x2)], [], (I, S)) r :=
  s_iconst rfl rfl <|
  k
theorem b_X10_kindAt_70 {d : Nat} {I : Nat → Nat → Int} {S : PS} {a0 : Nat} {x1 x2 xs0 : Int} : Ev d mX10_kindAt (70, [some (vR (some (20, 0, a0))), some (vI x1), some (vI x2)], [vI xs0], (I, S)) (.inl (some (vI xs0)), (I, S)) :=
  s_ret rfl rfl
theorem b_X10_isWord_0 {d : Nat} {r : PO × PM} {I : Nat → Nat → Int} {S : PS} {a0 n1 a1 : Nat} (kt : I a0 3 ≠ 1 → Ev d mX10_isWord (24, [some (vR (some (20, 0, a0))), some (vR (some (6, n1, a1))), none], [], (I, S)) r) (kf : I a0 3 = 1 → Ev d mX10_isWord (8, [some (vR (some (20, 0, a0))), some (vR (some (6, n1, a1))), none], [], (I, S)) r) : Ev d mX10_isWord (0, [some (vR (some (20, 0, a0))), some (vR (some (6, n1, a1))), none], [], (I, S)) r :=
  s_aload_n rfl rfl rfl <|
  s_getI rfl rfl rfl <|
  s_iconst rfl rfl <|
  s_icmp_ne 24 rfl rfl kt kf
theorem b_X10_isWord_8 {d : Nat} {r : PO × PM} {I : Nat → Nat → Int} {S : PS} {a0 n1 a1 : Nat} {I1 : Nat → Nat → Int} {S1 : PS} {z : Int} (ho1 : -2147483648 ≤ I a0 2 - (I a0 4) ∧ I a0 2 - (I a0 4) ≤ 2147483647) (c : Ca d mJ0_length_8abf5 [vR (some (6, n1, a1))] (I, S) (.inl (some (vI z))) (I1, S1)) (k : Ev (d + 1) mX10_isWord (21, [some (vR (some (20, 0, a0))), some (vR (some (6, n1, a1))), none], [vI z, vI (I a0 2 - (I a0 4))], (I1, S1)) r) : Ev (d + 1) mX10_isWord (8, [some (vR (some (20, 0, a0))), some (vR (some (6, n1, a1))), none], [], (I, S)) r :=
  s_aload_n rfl rfl rfl <|
  s_getI rfl rfl rfl <|
  s_aload_n rfl rfl rfl <|
  s_getI rfl rfl rfl <|
  s_isubp rfl ho1 <|
  s_aload_n rfl rfl rfl <|
  s_cvI rfl rfl rfl rfl rfl c k
theorem b_X10_isWord_21 {d : Nat} {r : PO × PM} {I : Nat → Nat → Int} {S : PS} {a0 n1 a1 : Nat} {xs0 xs1 : Int} (kt : xs0 = xs1 → Ev d mX10_isWord (26, [some (vR (some (20, 0, a0))), some (vR (some (6, n1, a1))), none], [], (I, S)) r) (kf : xs0 ≠ xs1 → Ev d mX10_isWord (24, [some (vR (some (20, 0, a0))), some (vR (some (6, n1, a1))), none], [], (I, S)) r) : Ev d mX10_isWord (21, [some (vR (some (20, 0, a0))), some (vR (some (6, n1, a1))), none], [vI xs1, vI xs0], (I, S)) r :=
  s_icmp_eq 26 rfl rfl kt kf
theorem b_X10_isWord_24 {d : Nat} {I : Nat → Nat → Int} {S : PS} {a0 n1 a1 : Nat} : Ev d mX10_isWord (24, [some (vR (some (20, 0, a0))), some (vR (some (6, n1, a1))), none], [], (I, S)) (.inl (some (vI 0)), (I, S)) :=
  s_iconst rfl rfl <|
  s_ret rfl rfl
theorem b_X10_isWord_26 {d : Nat} {r : PO × PM} {I : Nat → Nat → Int} {S : PS} {a0 n1 a1 : Nat} (k : Ev d mX10_isWord (28, [some (vR (some (20, 0, a0))), some (vR (some (6, n1, a1))), some (vI 0)], [], (I, S)) r) : Ev d mX10_isWord (26, [some (vR (some (20, 0, a0))), some (vR (some (6, n1, a1))), none], [], (I, S)) r :=
  s_iconst rfl rfl <|
  s_istore_n [some (vR (some (20, 0, a0))), some (vR (some (6, n1, a1))), some (vI 0)] rfl rfl <|
  k
theorem b_X10_isWord_28 {d : Nat} {r : PO × PM} {I : Nat → Nat → Int} {S : PS} {a0 n1 a1 : Nat} {x2 z : Int} {I1 : Nat → Nat → Int} {S1 : PS} (c : Ca d mJ0_length_8abf5 [vR (some (6, n1, a1))] (I, S) (.inl (some (vI z))) (I1, S1)) (k : Ev (d + 1) mX10_isWord (33, [some (vR (some (20, 0, a0))), some (vR (some (6, n1, a1))), some (vI x2)], [vI z, vI x2], (I1, S1)) r) : Ev (d + 1) mX10_isWord (28, [some (vR (some (20, 0, a0))), some (vR (some (6, n1, a1))), some (vI x2)], [], (I, S)) r :=
  s_iload_n rfl rfl rfl <|
  s_aload_n rfl rfl rfl <|
  s_cvI rfl rfl rfl rfl rfl c k
theorem b_X10_isWord_33 {d : Nat} {r : PO × PM} {I : Nat → Nat → Int} {S : PS} {a0 n1 a1 : Nat} {x2 xs0 xs1 : Int} (kt : xs1 ≤ xs0 → Ev d mX10_isWord (63, [some (vR (some (20, 0, a0))), some (vR (some (6, n1, a1))), some (vI x2)], [], (I, S)) r) (kf : xs0 < xs1 → Ev d mX10_isWord (36, [some (vR (some (20, 0, a0))), some (vR (some (6, n1, a1))), some (vI x2)], [], (I, S)) r) : Ev d mX10_isWord (33, [some (vR (some (20, 0, a0))), some (vR (some (6, n1, a1))), some (vI x2)], [vI xs1, vI xs0], (I, S)) r :=
  s_icmp_ge 63 rfl rfl kt kf
theorem b_X10_isWord_36 {d : Nat} {r : PO × PM} {I : Nat → Nat → Int} {S : PS} {a0 n1 a1 p1 q1 : Nat} {x2 z : Int} {I1 : Nat → Nat → Int} {S1 : PS} (hr1 : S.1 a0 0 = some (1, q1, p1)) (ho2 : -2147483648 ≤ I a0 4 + x2 ∧ I a0 4 + x2 ≤ 2147483647) (hi3 : 0 ≤ I a0 4 + x2 ∧ I a0 4 + x2 < (q1 : Nat)) (c : Ca d mJ0_charAt_5068e [vR (some (6, n1, a1)), vI x2] (I, S) (.inl (some (vI z))) (I1, S1)) (k : Ev (d + 1) mX10_isWord (52, [some (vR (some (20, 0, a0))), some (vR (some (6, n1, a1))), some (vI x2)], [vI z, vI (I p1 (I a0 4 + x2).toNat)], (I1, S1)) r) : Ev (d + 1) mX10_isWord (36, [some (vR (some (20, 0, a0))), some (vR (some (6, n1, a1))), some (vI x2)], [], (I, S)) r :=
  s_aload_n rfl rfl rfl <|
  s_getR rfl rfl rfl hr1 <|
  s_aload_n rfl rfl rfl <|
  s_getI rfl rfl rfl <|
  s_iload_n rfl rfl rfl <|
  s_iaddp rfl ho2 <|
  s_bald rfl rfl hi3 <|
  s_aload_n rfl rfl rfl <|
  s_iload_n rfl rfl rfl <|
  s_cvI rfl rfl rfl rfl rfl c k
theorem b_X10_isWord_52 {d : Nat} {r : PO × PM} {I : Nat → Nat → Int} {S : PS} {a0 n1 a1 : Nat} {x2 xs0 xs1 : Int} (kt : xs0 = xs1 → Ev d mX10_isWord (57, [some (vR (some (20, 0, a0))), some (vR (some (6, n1, a1))), some (vI x2)], [], (I, S)) r) (kf : xs0 ≠ xs1 → Ev d mX10_isWord (55, [some (vR (some (20, 0, a0))), some (vR (some (6, n1, a1))), some (vI x2)], [], (I, S)) r) : Ev d mX10_isWord (52, [some (vR (some (20, 0, a0))), some (vR (some (6, n1, a1))), some (vI x2)], [vI xs1, vI xs0], (I, S)) r :=
  s_icmp_eq 57 rfl rfl kt kf
theorem b_X10_isWord_55 {d : Nat} {I : Nat → Nat → Int} {S : PS} {a0 n1 a1 : Nat} {x2 : Int} : Ev d mX10_isWord (55, [some (vR (some (20, 0, a0))), some (vR (some (6, n1, a1))), some (vI x2)], [], (I, S)) (.inl (some (vI 0)), (I, S)) :=
  s_iconst rfl rfl <|
  s_ret rfl rfl
theorem b_X10_isWord_57 {d : Nat} {r : PO × PM} {I : Nat → Nat → Int} {S : PS} {a0 n1 a1 : Nat} {x2 : Int} (ho1 : -2147483648 ≤ x2 + 1 ∧ x2 + 1 ≤ 2147483647) (k : Ev d mX10_isWord (28, [some (vR (some (20, 0, a0))), some (vR (some (6, n1, a1))), some (vI (x2 + 1))], [], (I, S)) r) : Ev d mX10_isWord (57, [some (vR (some (20, 0, a0))), some (vR (some (6, n1, a1))), some (vI x2)], [], (I, S)) r :=
  s_iincp [some (vR (some (20, 0, a0))), some (vR (some (6, n1, a1))), some (vI (x2 + 1))] rfl rfl ho1 rfl <|
  s_goto 28 rfl rfl k
theorem b_X10_isWord_63 {d : Nat} {I : Nat → Nat → Int} {S : PS} {a0 n1 a1 : Nat} {x2 : Int} : Ev d mX10_isWord (63, [some (vR (some (20, 0, a0))), some (vR (some (6, n1, a1))), some (vI x2)], [], (I, S)) (.inl (some (vI 1)), (I, S)) :=
  s_iconst rfl rfl <|
  s_ret rfl rfl
end
