noncomputable section
theorem b_X0_init_0 {d : Nat} {r : PO × PM} {h : PM} {a0 : Nat} {h1 : PM} (c : Ca d mX7_init [vR (some (17, 0, (m_sz (m_si (m_sr (m_new h 3 4 4) a0 0 (some (3, 4, (m_sz h)))) a0 1 0))))] (m_new (m_si (m_sr (m_new h 3 4 4) a0 0 (some (3, 4, (m_sz h)))) a0 1 0) 17 0 2) (.inl none) h1) (k : Ev (d + 1) mX0_init (25, [some (vR (some (11, 0, a0))), none], [vR (some (17, 0, (m_sz (m_si (m_sr (m_new h 3 4 4) a0 0 (some (3, 4, (m_sz h)))) a0 1 0)))), vR (some (11, 0, a0))], h1) r) : Ev (d + 1) mX0_init (0, [some (vR (some (11, 0, a0))), none], [], h) r :=
  s_aload_n rfl rfl rfl <|
  s_obj rfl rfl rfl <|
  s_aload_n rfl rfl rfl <|
  s_iconst rfl rfl <|
  s_anew (n := 4) rfl rfl (by decide) <|
  s_putR rfl rfl rfl <|
  s_aload_n rfl rfl rfl <|
  s_iconst rfl rfl <|
  s_putI rfl rfl rfl <|
  s_aload_n rfl rfl rfl <|
  s_new rfl rfl <|
  s_dup rfl rfl <|
  s_ci rfl rfl rfl rfl rfl rfl c k
theorem b_X0_init_25 {d : Nat} {r : PO × PM} {h : PM} {a0 as0 as1 : Nat} (k : Ev d mX0_init (59, [some (vR (some (11, 0, a0))), some (vI 0)], [], m_si (m_sr (m_new (m_sr (m_new (m_sr (m_new (m_sr h as0 2 (some (17, 0, as1))) 0 12 12) a0 3 (some (0, 12, (m_sz (m_sr h as0 2 (some (17, 0, as1))))))) 0 12 12) a0 4 (some (0, 12, (m_sz (m_sr (m_new (m_sr h as0 2 (some (17, 0, as1))) 0 12 12) a0 3 (some (0, 12, (m_sz (m_sr h as0 2 (some (17, 0, as1))))))))))) 0 108 108) a0 5 (some (0, 108, (m_sz (m_sr (m_new (m_sr (m_new (m_sr h as0 2 (some (17, 0, as1))) 0 12 12) a0 3 (some (0, 12, (m_sz (m_sr h as0 2 (some (17, 0, as1))))))) 0 12 12) a0 4 (some (0, 12, (m_sz (m_sr (m_new (m_sr h as0 2 (some (17, 0, as1))) 0 12 12) a0 3 (some (0, 12, (m_sz (m_sr h as0 2 (some (17, 0, as1))))))))))))))) a0 6 0) r) : Ev d mX0_init (25, [some (vR (some (11, 0, a0))), none], [vR (some (17, 0, as1)), vR (some (11, 0, as0))], h) r :=
  s_putR rfl rfl rfl <|
  s_aload_n rfl rfl rfl <|
  s_bipush rfl rfl <|
  s_newa (n := 12) rfl (Or.inl ⟨rfl, rfl⟩) (by decide) <|
  s_putR rfl rfl rfl <|
  s_aload_n rfl rfl rfl <|
  s_bipush rfl rfl <|
  s_newa (n := 12) rfl (Or.inl ⟨rfl, rfl⟩) (by decide) <|
  s_putR rfl rfl rfl <|
  s_aload_n rfl rfl rfl <|
  s_bipush rfl rfl <|
  s_newa (n := 108) rfl (Or.inl ⟨rfl, rfl⟩) (by decide) <|
  s_putR rfl rfl rfl <|
  s_aload_n rfl rfl rfl <|
  s_iconst rfl rfl <|
  s_putI rfl rfl rfl <|
  s_iconst rfl rfl <|
  s_istore_n [some (vR (some (11, 0, a0))), some (vI 0)] rfl rfl <|
  k
theorem b_X0_init_59 {d : Nat} {r : PO × PM} {h : PM} {a0 : Nat} {x1 : Int} (kt : 4 ≤ x1 → Ev d mX0_init (83, [some (vR (some (11, 0, a0))), some (vI x1)], [], h) r) (kf : x1 < 4 → Ev d mX0_init (64, [some (vR (some (11, 0, a0))), some (vI x1)], [], h) r) : Ev d mX0_init (59, [some (vR (some (11, 0, a0))), some (vI x1)], [], h) r :=
  s_iload_n rfl rfl rfl <|
  s_iconst rfl rfl <|
  s_icmp_ge 83 rfl rfl kt kf
theorem b_X0_init_64 {d : Nat} {r : PO × PM} {h : PM} {a0 p1 q1 : Nat} {x1 : Int} {h1 : PM} (hr1 : h.2.1 a0 0 = some (3, q1, p1)) (c : Ca d mX3_init [vR (some (14, 0, (m_sz h)))] (m_new h 14 0 15) (.inl none) h1) (k : Ev (d + 1) mX0_init (76, [some (vR (some (11, 0, a0))), some (vI x1)], [vR (some (14, 0, (m_sz h))), vI x1, vR (some (3, q1, p1))], h1) r) : Ev (d + 1) mX0_init (64, [some (vR (some (11, 0, a0))), some (vI x1)], [], h) r :=
  s_aload_n rfl rfl rfl <|
  s_getR rfl rfl rfl hr1 <|
  s_iload_n rfl rfl rfl <|
  s_new rfl rfl <|
  s_dup rfl rfl <|
  s_ci rfl rfl rfl rfl rfl rfl c k
theorem b_X0_init_76 {d : Nat} {r : PO × PM} {h : PM} {a0 ns0 as0 as2 : Nat} {x1 xs1 : Int} (hi1 : 0 ≤ xs1 ∧ xs1 < (ns0 : Nat)) (ho2 : -2147483648 ≤ x1 + 1 ∧ x1 + 1 ≤ 2147483647) (k : Ev d mX0_init (59, [some (vR (some (11, 0, a0))), some (vI (x1 + 1))], [], m_sr h as0 (xs1.toNat) (some (14, 0, as2))) r) : Ev d mX0_init (76, [some (vR (some (11, 0, a0))), some (vI x1)], [vR (some (14, 0, as2)), vI xs1, vR (some (3, ns0, as0))], h) r :=
  s_aast rfl rfl hi1 <|
  s_iincp [some (vR (some (11, 0, a0))), some (vI (x1 + 1))] rfl rfl ho2 rfl <|
  s_goto 59 rfl rfl k
theorem b_X0_init_83 {d : Nat} {h : PM} {a0 : Nat} {x1 : Int} : Ev d mX0_init (83, [some (vR (some (11, 0, a0))), some (vI x1)], [], h) (.inl none, h) :=
  s_vret rfl rfl
theorem b_X0_clear_0 {d : Nat} {I : Nat → Nat → Int} {S : PS} {a0 p1 : Nat} (hr1 : S.1 a0 2 = some (17, 0, p1)) : Ev d mX0_clear (0, [some (vR (some (11, 0, a0)))], [], (I, S)) (.inl none, ((up2 (up2 (up2 I a0 1 0) p1 0 0) a0 6 0), S)) :=
  s_aload_n rfl rfl rfl <|
  s_iconst rfl rfl <|
  s_putI rfl rfl rfl <|
  s_aload_n rfl rfl rfl <|
  s_getR rfl rfl rfl hr1 <|
  s_iconst rfl rfl <|
  s_putI rfl rfl rfl <|
  s_aload_n rfl rfl rfl <|
  s_iconst rfl rfl <|
  s_putI rfl rfl rfl <|
  s_vret rfl rfl
theorem b_X0_keepPiece_0 {d : Nat} {I : Nat → Nat → Int} {S : PS} {a0 : Nat} (ho1 : -2147483648 ≤ I a0 1 + 1 ∧ I a0 1 + 1 ≤ 2147483647) : Ev d mX0_keepPiece (0, [some (vR (some (11, 0, a0)))], [], (I, S)) (.inl (some (vI 0)), ((up2 I a0 1 (I a0 1 + 1)), S)) :=
  s_aload_n rfl rfl rfl <|
  s_dup rfl rfl <|
  s_getI rfl rfl rfl <|
  s_iconst rfl rfl <|
  s_iaddp rfl ho1 <|
  s_putI rfl rfl rfl <|
  s_iconst rfl rfl <|
  s_ret rfl rfl
theorem b_X0_keepSpot_0 {d : Nat} {I : Nat → Nat → Int} {S : PS} {a0 : Nat} (ho1 : -2147483648 ≤ I a0 6 + 1 ∧ I a0 6 + 1 ≤ 2147483647) : Ev d mX0_keepSpot (0, [some (vR (some (11, 0, a0)))], [], (I, S)) (.inl (some (vI 0)), ((up2 I a0 6 (I a0 6 + 1)), S)) :=
  s_aload_n rfl rfl rfl <|
  s_dup rfl rfl <|
  s_getI rfl rfl rfl <|
  s_iconst rfl rfl <|
  s_iaddp rfl ho1 <|
  s_putI rfl rfl rfl <|
  s_iconst rfl rfl <|
  s_ret rfl rfl
theorem b_X0_beginSpot_0 {d : Nat} {I : Nat → Nat → Int} {S : PS} {a0 p1 q1 p3 q3 : Nat} (hr1 : S.1 a0 3 = some (0, q1, p1)) (hi2 : 0 ≤ I a0 6 ∧ I a0 6 < (q1 : Nat)) (hr3 : S.1 a0 4 = some (0, q3, p3)) (hi4 : 0 ≤ (up2 I p1 ((I a0 6).toNat) 0) a0 6 ∧ (up2 I p1 ((I a0 6).toNat) 0) a0 6 < (q3 : Nat)) : Ev d mX0_beginSpot (0, [some (vR (some (11, 0, a0)))], [], (I, S)) (.inl none, ((up2 (up2 I p1 ((I a0 6).toNat) 0) p3 (((up2 I p1 ((I a0 6).toNat) 0) a0 6).toNat) 0), S)) :=
  s_aload_n rfl rfl rfl <|
  s_getR rfl rfl rfl hr1 <|
  s_aload_n rfl rfl rfl <|
  s_getI rfl rfl rfl <|
  s_iconst rfl rfl <|
  s_iast rfl hi2 <|
  s_aload_n rfl rfl rfl <|
  s_getR rfl rfl rfl hr3 <|
  s_aload_n rfl rfl rfl <|
  s_getI rfl rfl rfl <|
  s_iconst rfl rfl <|
  s_iast rfl hi4 <|
  s_vret rfl rfl
theorem b_X0_addNeighbour_0 {d : Nat} {r : PO × PM} {I : Nat → Nat → Int} {S : PS} {a0 p1 q1 : Nat} {x1 : Int} (hr1 : S.1 a0 3 = some (0, q1, p1)) (hi2 : 0 ≤ I a0 6 ∧ I a0 6 < (q1 : Nat)) (kt : x1 = I a0 6 → Ev d mX0_addNeighbour (40, [some (vR (some (11, 0, a0))), some (vI x1), some (vI (I p1 (I a0 6).toNat))], [], (I, S)) r) (kf : x1 ≠ I a0 6 → Ev d mX0_addNeighbour (18, [some (vR (some (11, 0, a0))), some (vI x1), some (vI (I p1 (I a0 6).toNat))], [], (I, S)) r) : Ev d mX0_addNeighbour (0, [some (vR (some (11, 0, a0))), some (vI x1), none], [], (I, S)) r :=
  s_aload_n rfl rfl rfl <|
  s_getR rfl rfl rfl hr1 <|
  s_aload_n rfl rfl rfl <|
  s_getI rfl rfl rfl <|
  s_iald rfl rfl hi2 <|
  s_istore_n [some (vR (some (11, 0, a0))), some (vI x1), some (vI (I p1 (I a0 6).toNat))] rfl rfl <|
  s_iload_n rfl rfl rfl <|
  s_aload_n rfl rfl rfl <|
  s_getI rfl rfl rfl <|
  s_icmp_eq 40 rfl rfl kt kf
theorem b_X0_addNeighbour_18 {d : Nat} {r : PO × PM} {I : Nat → Nat → Int} {S : PS} {a0 p1 q1 : Nat} {x1 x2 : Int} (hr1 : S.1 a0 4 = some (0, q1, p1)) (hi2 : 0 ≤ I a0 6 ∧ I a0 6 < (q1 : Nat)) (kt : p_and (p_shr (I p1 (I a0 6).toNat) x1) 1 ≠ 0 → Ev d mX0_addNeighbour (40, [some (vR (some (11, 0, a0))), some (vI x1), some (vI x2)], [], (I, S)) r) (kf : p_and (p_shr (I p1 (I a0 6).toNat) x1) 1 = 0 → Ev d mX0_addNeighbour (34, [some (vR (some (11, 0, a0))), some (vI x1), some (vI x2)], [], (I, S)) r) : Ev d mX0_addNeighbour (18, [some (vR (some (11, 0, a0))), some (vI x1), some (vI x2)], [], (I, S)) r :=
  s_aload_n rfl rfl rfl <|
  s_getR rfl rfl rfl hr1 <|
  s_aload_n rfl rfl rfl <|
  s_getI rfl rfl rfl <|
  s_iald rfl rfl hi2 <|
  s_iload_n rfl rfl rfl <|
  s_ishr rfl <|
  s_iconst rfl rfl <|
  s_iand rfl <|
  s_if_ne 40 rfl rfl kt kf
theorem b_X0_addNeighbour_34 {d : Nat} {r : PO × PM} {I : Nat → Nat → Int} {S : PS} {a0 : Nat} {x1 x2 : Int} (kt : x2 < 9 → Ev d mX0_addNeighbour (42, [some (vR (some (11, 0, a0))), some (vI x1), some (vI x2)], [], (I, S)) r) (kf : 9 ≤ x2 → Ev d mX0_addNeighbour (40, [some (vR (some (11, 0, a0))), some (vI x1), some (vI x2)], [], (I, S)) r) : Ev d mX0_addNeighbour (34, [some (vR (some (11, 0, a0))), some (vI x1), some (vI x2)], [], (I, S)) r :=
  s_iload_n rfl rfl rfl <|
  s_bipush rfl rfl <|
  s_icmp_lt 42 rfl rfl kt kf
theorem b_X0_addNeighbour_40 {d : Nat} {I : Nat → Nat → Int} {S : PS} {a0 : Nat} {x1 x2 : Int} : Ev d mX0_addNeighbour (40, [some (vR (some (11, 0, a0))), some (vI x1), some (vI x2)], [], (I, S)) (.inl (some (vI 0)), (I, S)) :=
  s_iconst rfl rfl <|
  s_ret rfl rfl
theorem b_X0_addNeighbour_42 {d : Nat} {I : Nat → Nat → Int} {S : PS} {a0 p1 q1 p5 q5 p8 q8 : Nat} {x1 x2 : Int} (hr1 : S.1 a0 5 = some (0, q1, p1)) (ho2 : -2147483648 ≤ (I a0 6) * 9 ∧ (I a0 6) * 9 ≤ 2147483647) (ho3 : -2147483648 ≤ ((I a0 6) * 9) + x2 ∧ ((I a0 6) * 9) + x2 ≤ 2147483647) (hi4 : 0 ≤ ((I a0 6) * 9) + x2 ∧ ((I a0 6) * 9) + x2 < (q1 : Nat)) (hr5 : S.1 a0 4 = some (0, q5, p5)) (hi6 : 0 ≤ (up2 I p1 ((((I a0 6) * 9) + x2).toNat) x1) a0 6 ∧ (up2 I p1 ((((I a0 6) * 9) + x2).toNat) x1) a0 6 < (q5 : Nat)) (hi7 : 0 ≤ (up2 I p1 ((((I a0 6) * 9) + x2).toNat) x1) a0 6 ∧ (up2 I p1 ((((I a0 6) * 9) + x2).toNat) x1) a0 6 < (q5 : Nat)) (hr8 : S.1 a0 3 = some (0, q8, p8)) (ho9 : -2147483648 ≤ x2 + 1 ∧ x2 + 1 ≤ 2147483647) (hi10 : 0 ≤ (up2 (up2 I p1 ((((I a0 6) * 9) + x2).toNat) x1) p5 (((up2 I p1 ((((I a0 6) * 9) + x2).toNat) x1) a0 6).toNat) (p_or ((up2 I p1 ((((I a0 6) * 9) + x2).toNat) x1) p5 ((up2 I p1 ((((I a0 6) * 9) + x2).toNat) x1) a0 6).toNat) (p_shl 1 x1))) a0 6 ∧ (up2 (up2 I p1 ((((I a0 6) * 9) + x2).toNat) x1) p5 (((up2 I p1 ((((I a0 6) * 9) + x2).toNat) x1) a0 6).toNat) (p_or ((up2 I p1 ((((I a0 6) * 9) + x2).toNat) x1) p5 ((up2 I p1 ((((I a0 6) * 9) + x2).toNat) x1) a0 6).toNat) (p_shl 1 x1))) a0 6 < (q8 : Nat)) : Ev d mX0_addNeighbour (42, [some (vR (some (11, 0, a0))), some (vI x1), some (vI x2)], [], (I, S)) (.inl (some (vI 1)), ((up2 (up2 (up2 I p1 ((((I a0 6) * 9) + x2).toNat) x1) p5 (((up2 I p1 ((((I a0 6) * 9) + x2).toNat) x1) a0 6).toNat) (p_or ((up2 I p1 ((((I a0 6) * 9) + x2).toNat) x1) p5 ((up2 I p1 ((((I a0 6) * 9) + x2).toNat) x1) a0 6).toNat) (p_shl 1 x1))) p8 (((up2 (up2 I p1 ((((I a0 6) * 9) + x2).toNat) x1) p5 (((up2 I p1 ((((I a0 6) * 9) + x2).toNat) x1) a0 6).toNat) (p_or ((up2 I p1 ((((I a0 6) * 9) + x2).toNat) x1) p5 ((up2 I p1 ((((I a0 6) * 9) + x2).toNat) x1) a0 6).toNat) (p_shl 1 x1))) a0 6).toNat) (x2 + 1)), S)) :=
  s_aload_n rfl rfl rfl <|
  s_getR rfl rfl rfl hr1 <|
  s_aload_n rfl rfl rfl <|
  s_getI rfl rfl rfl <|
  s_bipush rfl rfl <|
  s_imulp rfl ho2 <|
  s_iload_n rfl rfl rfl <|
  s_iaddp rfl ho3 <|
  s_iload_n rfl rfl rfl <|
  s_iast rfl hi4 <|
  s_aload_n rfl rfl rfl <|
  s_getR rfl rfl rfl hr5 <|
  s_aload_n rfl rfl rfl <|
  s_getI rfl rfl rfl <|
  s_dup2 rfl rfl <|
  s_iald rfl rfl hi6 <|
  s_iconst rfl rfl <|
  s_iload_n rfl rfl rfl <|
  s_ishl rfl <|
  s_ior rfl <|
  s_iast rfl hi7 <|
  s_aload_n rfl rfl rfl <|
  s_getR rfl rfl rfl hr8 <|
  s_aload_n rfl rfl rfl <|
  s_getI rfl rfl rfl <|
  s_iload_n rfl rfl rfl <|
  s_iconst rfl rfl <|
  s_iaddp rfl ho9 <|
  s_iast rfl hi10 <|
  s_iconst rfl rfl <|
  s_ret rfl rfl
theorem b_X0_isMap_0 {d : Nat} {r : PO × PM} {I : Nat → Nat → Int} {S : PS} {a0 : Nat} (k : Ev d mX0_isMap (2, [some (vR (some (11, 0, a0))), some (vI 0), none, none, none], [], (I, S)) r) : Ev d mX0_isMap (0, [some (vR (some (11, 0, a0))), none, none, none, none], [], (I, S)) r :=
  s_iconst rfl rfl <|
  s_istore_n [some (vR (some (11, 0, a0))), some (vI 0), none, none, none] rfl rfl <|
  k
theorem b_X0_isMap_2 {d : Nat} {r : PO × PM} {I : Nat → Nat → Int} {S : PS} {a0 : Nat} {x1 : Int} (kt : I a0 6 ≤ x1 → Ev d mX0_isMap (88, [some (vR (some (11, 0, a0))), some (vI x1), none, none, none], [], (I, S)) r) (kf : x1 < I a0 6 → Ev d mX0_isMap (10, [some (vR (some (11, 0, a0))), some (vI x1), none, none, none], [], (I, S)) r) : Ev d mX0_isMap (2, [some (vR (some (11, 0, a0))), some (vI x1), none, none, none], [], (I, S)) r :=
  s_iload_n rfl rfl rfl <|
  s_aload_n rfl rfl rfl <|
  s_getI rfl rfl rfl <|
  s_icmp_ge 88 rfl rfl kt kf
theorem b_X0_isMap_10 {d : Nat} {r : PO × PM} {I : Nat → Nat → Int} {S : PS} {a0 : Nat} {x1 : Int} (k : Ev d mX0_isMap (12, [some (vR (some (11, 0, a0))), some (vI x1), some (vI 0), none, none], [], (I, S)) r) : Ev d mX0_isMap (10, [some (vR (some (11, 0, a0))), some (vI x1), none, none, none], [], (I, S)) r :=
  s_iconst rfl rfl <|
  s_istore_n [some (vR (some (11, 0, a0))), some (vI x1), some (vI 0), none, none] rfl rfl <|
  k
theorem b_X0_isMap_12 {d : Nat} {r : PO × PM} {I : Nat → Nat → Int} {S : PS} {a0 p1 q1 : Nat} {x1 x2 : Int} (hr1 : S.1 a0 3 = some (0, q1, p1)) (hi2 : 0 ≤ x1 ∧ x1 < (q1 : Nat)) (kt : I p1 x1.toNat ≤ x2 → Ev d mX0_isMap (82, [some (vR (some (11, 0, a0))), some (vI x1), some (vI x2), none, none], [], (I, S)) r) (kf : x2 < I p1 x1.toNat → Ev d mX0_isMap (22, [some (vR (some (11, 0, a0))), some (vI x1), some (vI x2), none, none], [], (I, S)) r) : Ev d mX0_isMap (12, [some (vR (some (11, 0, a0))), some (vI x1), some (vI x2), none, none], [], (I, S)) r :=
  s_iload_n rfl rfl rfl <|
  s_aload_n rfl rfl rfl <|
  s_getR rfl rfl rfl hr1 <|
  s_iload_n rfl rfl rfl <|
  s_iald rfl rfl hi2 <|
  s_icmp_ge 82 rfl rfl kt kf
theorem b_X0_isMap_22 {d : Nat} {r : PO × PM} {I : Nat → Nat → Int} {S : PS} {a0 : Nat} {x1 x2 z : Int} {I1 : Nat → Nat → Int} {S1 : PS} (c : Ca d mX0_neighbourAt [vR (some (11, 0, a0)), vI x1, vI x2] (I, S) (.inl (some (vI z))) (I1, S1)) (k : Ev (d + 1) mX0_isMap (28, [some (vR (some (11, 0, a0))), some (vI x1), some (vI x2), none, none], [vI z], (I1, S1)) r) : Ev (d + 1) mX0_isMap (22, [some (vR (some (11, 0, a0))), some (vI x1), some (vI x2), none, none], [], (I, S)) r :=
  s_aload_n rfl rfl rfl <|
  s_iload_n rfl rfl rfl <|
  s_iload_n rfl rfl rfl <|
  s_cvI rfl rfl rfl rfl rfl c k
theorem b_X0_isMap_28 {d : Nat} {r : PO × PM} {I : Nat → Nat → Int} {S : PS} {a0 p2 q2 : Nat} {x1 x2 xs0 : Int} (ho1 : -2147483648 ≤ x2 + 1 ∧ x2 + 1 ≤ 2147483647) (hr2 : S.1 a0 3 = some (0, q2, p2)) (hi3 : 0 ≤ x1 ∧ x1 < (q2 : Nat)) (kt : I p2 x1.toNat ≤ x2 + 1 → Ev d mX0_isMap (49, [some (vR (some (11, 0, a0))), some (vI x1), some (vI x2), some (vI xs0), none], [vI x1, vR (some (11, 0, a0))], (I, S)) r) (kf : x2 + 1 < I p2 x1.toNat → Ev d mX0_isMap (43, [some (vR (some (11, 0, a0))), some (vI x1), some (vI x2), some (vI xs0), none], [vI x1, vR (some (11, 0, a0))], (I, S)) r) : Ev d mX0_isMap (28, [some (vR (some (11, 0, a0))), some (vI x1), some (vI x2), none, none], [vI xs0], (I, S)) r :=
  s_istore_n [some (vR (some (11, 0, a0))), some (vI x1), some (vI x2), some (vI xs0), none] rfl rfl <|
  s_aload_n rfl rfl rfl <|
  s_iload_n rfl rfl rfl <|
  s_iload_n rfl rfl rfl <|
  s_iconst rfl rfl <|
  s_iaddp rfl ho1 <|
  s_aload_n rfl rfl rfl <|
  s_getR rfl rfl rfl hr2 <|
  s_iload_n rfl rfl rfl <|
  s_iald rfl rfl hi3 <|
  s_icmp_ge 49 rfl rfl kt kf
theorem b_X0_isMap_43 {d : Nat} {r : PO × PM} {I : Nat → Nat → Int} {S : PS} {a0 as0 : Nat} {x1 x2 x3 xs1 : Int} (ho1 : -2147483648 ≤ x2 + 1 ∧ x2 + 1 ≤ 2147483647) (k : Ev d mX0_isMap (50, [some (vR (some (11, 0, a0))), some (vI x1), some (vI x2), some (vI x3), none], [vI (x2 + 1), vI xs1, vR (some (11, 0, as0))], (I, S)) r) : Ev d mX0_isMap (43, [some (vR (some (11, 0, a0))), some (vI x1), some (vI x2), some (vI x3), none], [vI xs1, vR (some (11, 0, as0))], (I, S)) r :=
  s_iload_n rfl rfl rfl <|
  s_iconst rfl rfl <|
  s_iaddp rfl ho1 <|
  s_goto 50 rfl rfl k
theorem b_X0_isMap_49 {d : Nat} {r : PO × PM} {I : Nat → Nat → Int} {S : PS} {a0 as0 : Nat} {x1 x2 x3 xs1 : Int} (k : Ev d mX0_isMap (50, [some (vR (some (11, 0, a0))), some (vI x1), some (vI x2), some (vI x3), none], [vI 0, vI xs1, vR (some (11, 0, as0))], (I, S)) r) : Ev d mX0_isMap (49, [some (vR (some (11, 0, a0))), some (vI x1), some (vI x2), some (vI x3), none], [vI xs1, vR (some (11, 0, as0))], (I, S)) r :=
  s_iconst rfl rfl <|
  k
theorem b_X0_isMap_50 {d : Nat} {r : PO × PM} {I : Nat → Nat → Int} {S : PS} {a0 as0 : Nat} {x1 x2 x3 xs1 xs2 z : Int} {I1 : Nat → Nat → Int} {S1 : PS} (c : Ca d mX0_neighbourAt [vR (some (11, 0, as0)), vI xs1, vI xs2] (I, S) (.inl (some (vI z))) (I1, S1)) (k : Ev (d + 1) mX0_isMap (53, [some (vR (some (11, 0, a0))), some (vI x1), some (vI x2), some (vI x3), none], [vI z], (I1, S1)) r) : Ev (d + 1) mX0_isMap (50, [some (vR (some (11, 0, a0))), some (vI x1), some (vI x2), some (vI x3), none], [vI xs2, vI xs1, vR (some (11, 0, as0))], (I, S)) r :=
  s_cvI rfl rfl rfl rfl rfl c k
theorem b_X0_isMap_53 {d : Nat} {r : PO × PM} {I : Nat → Nat → Int} {S : PS} {a0 : Nat} {x1 x2 x3 xs0 : Int} (kt : I a0 6 ≤ x3 → Ev d mX0_isMap (74, [some (vR (some (11, 0, a0))), some (vI x1), some (vI x2), some (vI x3), some (vI xs0)], [], (I, S)) r) (kf : x3 < I a0 6 → Ev d mX0_isMap (63, [some (vR (some (11, 0, a0))), some (vI x1), some (vI x2), some (vI x3), some (vI xs0)], [], (I, S)) r) : Ev d mX0_isMap (53, [some (vR (some (11, 0, a0))), some (vI x1), some (vI x2), some (vI x3), none], [vI xs0], (I, S)) r :=
  s_istore [some (vR (some (11, 0, a0))), some (vI x1), some (vI x2), some (vI x3), some (vI xs0)] rfl rfl <|
  s_iload_n rfl rfl rfl <|
  s_aload_n rfl rfl rfl <|
  s_getI rfl rfl rfl <|
  s_icmp_ge 74 rfl rfl kt kf
theorem b_X0_isMap_63 {d : Nat} {r : PO × PM} {I : Nat → Nat → Int} {S : PS} {a0 : Nat} {x1 x2 x3 x4 z : Int} {I1 : Nat → Nat → Int} {S1 : PS} (c : Ca d mX0_behindOf [vR (some (11, 0, a0)), vI x3, vI x4] (I, S) (.inl (some (vI z))) (I1, S1)) (k : Ev (d + 1) mX0_isMap (70, [some (vR (some (11, 0, a0))), some (vI x1), some (vI x2), some (vI x3), some (vI x4)], [vI z], (I1, S1)) r) : Ev (d + 1) mX0_isMap (63, [some (vR (some (11, 0, a0))), some (vI x1), some (vI x2), some (vI x3), some (vI x4)], [], (I, S)) r :=
  s_aload_n rfl rfl rfl <|
  s_iload_n rfl rfl rfl <|
  s_iload rfl rfl rfl <|
  s_cvI rfl rfl rfl rfl rfl c k
theorem b_X0_isMap_70 {d : Nat} {r : PO × PM} {I : Nat → Nat → Int} {S : PS} {a0 : Nat} {x1 x2 x3 x4 xs0 : Int} (kt : xs0 = x1 → Ev d mX0_isMap (76, [some (vR (some (11, 0, a0))), some (vI x1), some (vI x2), some (vI x3), some (vI x4)], [], (I, S)) r) (kf : xs0 ≠ x1 → Ev d mX0_isMap (74, [some (vR (some (11, 0, a0))), some (vI x1), some (vI x2), some (vI x3), some (vI x4)], [], (I, S)) r) : Ev d mX0_isMap (70, [some (vR (some (11, 0, a0))), some (vI x1), some (vI x2), some (vI x3), some (vI x4)], [vI xs0], (I, S)) r :=
  s_iload_n rfl rfl rfl <|
  s_icmp_eq 76 rfl rfl kt kf
theorem b_X0_isMap_74 {d : Nat} {I : Nat → Nat → Int} {S : PS} {a0 : Nat} {x1 x2 x3 x4 : Int} : Ev d mX0_isMap (74, [some (vR (some (11, 0, a0))), some (vI x1), some (vI x2), some (vI x3), some (vI x4)], [], (I, S)) (.inl (some (vI 0)), (I, S)) :=
  s_iconst rfl rfl <|
  s_ret rfl rfl
theorem b_X0_isMap_76 {d : Nat} {r : PO × PM} {I : Nat → Nat → Int} {S : PS} {a0 : Nat} {x1 x2 x3 x4 : Int} (ho1 : -2147483648 ≤ x2 + 1 ∧ x2 + 1 ≤ 2147483647) (k : Ev d mX0_isMap (12, [some (vR (some (11, 0, a0))), some (vI x1), some (vI (x2 + 1)), none, none], [], (I, S)) r) : Ev d mX0_isMap (76, [some (vR (some (11, 0, a0))), some (vI x1), some (vI x2), some (vI x3), some (vI x4)], [], (I, S)) r :=
  s_iincp [some (vR (some (11, 0, a0))), some (vI x1), some (vI (x2 + 1)), some (vI x3), some (vI x4)] rfl rfl ho1 rfl <|
  s_goto 12 rfl rfl (ev_forget [false, false, false, true, true] rfl k)
theorem b_X0_isMap_82 {d : Nat} {r : PO × PM} {I : Nat → Nat → Int} {S : PS} {a0 : Nat} {x1 x2 : Int} (ho1 : -2147483648 ≤ x1 + 1 ∧ x1 + 1 ≤ 2147483647) (k : Ev d mX0_isMap (2, [some (vR (some (11, 0, a0))), some (vI (x1 + 1)), none, none, none], [], (I, S)) r) : Ev d mX0_isMap (82, [some (vR (some (11, 0, a0))), some (vI x1), some (vI x2), none, none], [], (I, S)) r :=
  s_iincp [some (vR (some (11, 0, a0))), some (vI (x1 + 1)), some (vI x2), none, none] rfl rfl ho1 rfl <|
  s_goto 2 rfl rfl (ev_forget [false, false, true, false, false] rfl k)
theorem b_X0_isMap_88 {d : Nat} {I : Nat → Nat → Int} {S : PS} {a0 : Nat} {x1 : Int} : Ev d mX0_isMap (88, [some (vR (some (11, 0, a0))), some (vI x1), none, none, none], [], (I, S)) (.inl (some (vI 1)), (I, S)) :=
  s_iconst rfl rfl <|
  s_ret rfl rfl
theorem b_X0_neighbourAt_0 {d : Nat} {I : Nat → Nat → Int} {S : PS} {a0 p1 q1 : Nat} {x1 x2 : Int} (hr1 : S.1 a0 5 = some (0, q1, p1)) (ho2 : -2147483648 ≤ x1 * 9 ∧ x1 * 9 ≤ 2147483647) (ho3 : -2147483648 ≤ (x1 * 9) + x2 ∧ (x1 * 9) + x2 ≤ 2147483647) (hi4 : 0 ≤ (x1 * 9) + x2 ∧ (x1 * 9) + x2 < (q1 : Nat)) : Ev d mX0_neighbourAt (0, [some (vR (some (11, 0, a0))), some (vI x1), some (vI x2)], [], (I, S)) (.inl (some (vI (I p1 ((x1 * 9) + x2).toNat))), (I, S)) :=
  s_aload_n rfl rfl rfl <|
  s_getR rfl rfl rfl hr1 <|
  s_iload_n rfl rfl rfl <|
  s_bipush rfl rfl <|
  s_imulp rfl ho2 <|
  s_iload_n rfl rfl rfl <|
  s_iaddp rfl ho3 <|
  s_iald rfl rfl hi4 <|
  s_ret rfl rfl
theorem b_X0_behindOf_0 {d : Nat} {r : PO × PM} {I : Nat → Nat → Int} {S : PS} {a0 p1 q1 : Nat} {x1 x2 : Int} (hr1 : S.1 a0 3 = some (0, q1, p1)) (hi2 : 0 ≤ x1 ∧ x1 < (q1 : Nat)) (k : Ev d mX0_behindOf (10, [some (vR (some (11, 0, a0))), some (vI x1), some (vI x2), some (vI (I p1 x1.toNat)), some (vI 0)], [], (I, S)) r) : Ev d mX0_behindOf (0, [some (vR (some (11, 0, a0))), some (vI x1), some (vI x2), none, none], [], (I, S)) r :=
  s_aload_n rfl rfl rfl <|
  s_getR rfl rfl rfl hr1 <|
  s_iload_n rfl rfl rfl <|
  s_iald rfl rfl hi2 <|
  s_istore_n [some (vR (some (11, 0, a0))), some (vI x1), some (vI x2), some (vI (I p1 x1.toNat)), none] rfl rfl <|
  s_iconst rfl rfl <|
  s_istore [some (vR (some (11, 0, a0))), some (vI x1), some (vI x2), some (vI (I p1 x1.toNat)), some (vI 0)] rfl rfl <|
  k
theorem b_X0_behindOf_10 {d : Nat} {r : PO × PM} {I : Nat → Nat → Int} {S : PS} {a0 : Nat} {x1 x2 x3 x4 : Int} (kt : x3 ≤ x4 → Ev d mX0_behindOf (55, [some (vR (some (11, 0, a0))), some (vI x1), some (vI x2), some (vI x3), some (vI x4)], [], (I, S)) r) (kf : x4 < x3 → Ev d mX0_behindOf (16, [some (vR (some (11, 0, a0))), some (vI x1), some (vI x2), some (vI x3), some (vI x4)], [], (I, S)) r) : Ev d mX0_behindOf (10, [some (vR (some (11, 0, a0))), some (vI x1), some (vI x2), some (vI x3), some (vI x4)], [], (I, S)) r :=
  s_iload rfl rfl rfl <|
  s_iload_n rfl rfl rfl <|
  s_icmp_ge 55 rfl rfl kt kf
theorem b_X0_behindOf_16 {d : Nat} {r : PO × PM} {I : Nat → Nat → Int} {S : PS} {a0 : Nat} {x1 x2 x3 x4 z : Int} {I1 : Nat → Nat → Int} {S1 : PS} (c : Ca d mX0_neighbourAt [vR (some (11, 0, a0)), vI x1, vI x4] (I, S) (.inl (some (vI z))) (I1, S1)) (k : Ev (d + 1) mX0_behindOf (23, [some (vR (some (11, 0, a0))), some (vI x1), some (vI x2), some (vI x3), some (vI x4)], [vI z], (I1, S1)) r) : Ev (d + 1) mX0_behindOf (16, [some (vR (some (11, 0, a0))), some (vI x1), some (vI x2), some (vI x3), some (vI x4)], [], (I, S)) r :=
  s_aload_n rfl rfl rfl <|
  s_iload_n rfl rfl rfl <|
  s_iload rfl rfl rfl <|
  s_cvI rfl rfl rfl rfl rfl c k
theorem b_X0_behindOf_23 {d : Nat} {r : PO × PM} {I : Nat → Nat → Int} {S : PS} {a0 : Nat} {x1 x2 x3 x4 xs0 : Int} (kt : xs0 ≠ x2 → Ev d mX0_behindOf (49, [some (vR (some (11, 0, a0))), some (vI x1), some (vI x2), some (vI x3), some (vI x4)], [], (I, S)) r) (kf : xs0 = x2 → Ev d mX0_behindOf (27, [some (vR (some (11, 0, a0))), some (vI x1), some (vI x2), some (vI x3), some (vI x4)], [], (I, S)) r) : Ev d mX0_behindOf (23, [some (vR (some (11, 0, a0))), some (vI x1), some (vI x2), some (vI x3), some (vI x4)], [vI xs0], (I, S)) r :=
  s_iload_n rfl rfl rfl <|
  s_icmp_ne 49 rfl rfl kt kf
theorem b_X0_behindOf_27 {d : Nat} {r : PO × PM} {I : Nat → Nat → Int} {S : PS} {a0 : Nat} {x1 x2 x3 x4 : Int} (ho1 : -2147483648 ≤ x4 + 1 ∧ x4 + 1 ≤ 2147483647) (kt : x3 ≤ x4 + 1 → Ev d mX0_behindOf (44, [some (vR (some (11, 0, a0))), some (vI x1), some (vI x2), some (vI x3), some (vI x4)], [vI x1, vR (some (11, 0, a0))], (I, S)) r) (kf : x4 + 1 < x3 → Ev d mX0_behindOf (37, [some (vR (some (11, 0, a0))), some (vI x1), some (vI x2), some (vI x3), some (vI x4)], [vI x1, vR (some (11, 0, a0))], (I, S)) r) : Ev d mX0_behindOf (27, [some (vR (some (11, 0, a0))), some (vI x1), some (vI x2), some (vI x3), some (vI x4)], [], (I, S)) r :=
  s_aload_n rfl rfl rfl <|
  s_iload_n rfl rfl rfl <|
  s_iload rfl rfl rfl <|
  s_iconst rfl rfl <|
  s_iaddp rfl ho1 <|
  s_iload_n rfl rfl rfl <|
  s_icmp_ge 44 rfl rfl kt kf
theorem b_X0_behindOf_37 {d : Nat} {r : PO × PM} {I : Nat → Nat → Int} {S : PS} {a0 as0 : Nat} {x1 x2 x3 x4 xs1 : Int} (ho1 : -2147483648 ≤ x4 + 1 ∧ x4 + 1 ≤ 2147483647) (k : Ev d mX0_behindOf (45, [some (vR (some (11, 0, a0))), some (vI x1), some (vI x2), some (vI x3), some (vI x4)], [vI (x4 + 1), vI xs1, vR (some (11, 0, as0))], (I, S)) r) : Ev d mX0_behindOf (37, [some (vR (some (11, 0, a0))), some (vI x1), some (vI x2), some (vI x3), some (vI x4)], [vI xs1, vR (some (11, 0, as0))], (I, S)) r :=
  s_iload rfl rfl rfl <|
  s_iconst rfl rfl <|
  s_iaddp rfl ho1 <|
  s_goto 45 rfl rfl k
theorem b_X0_behindOf_44 {d : Nat} {r : PO × PM} {I : Nat → Nat → Int} {S : PS} {a0 as0 : Nat} {x1 x2 x3 x4 xs1 : Int} (k : Ev d mX0_behindOf (45, [some (vR (some (11, 0, a0))), some (vI x1), some (vI x2), some (vI x3), some (vI x4)], [vI 0, vI xs1, vR (some (11, 0, as0))], (I, S)) r) : Ev d mX0_behindOf (44, [some (vR (some (11, 0, a0))), some (vI x1), some (vI x2), some (vI x3), some (vI x4)], [vI xs1, vR (some (11, 0, as0))], (I, S)) r :=
  s_iconst rfl rfl <|
  k
theorem b_X0_behindOf_45 {d : Nat} {r : PO × PM} {I : Nat → Nat → Int} {S : PS} {a0 as0 : Nat} {x1 x2 x3 x4 xs1 xs2 z : Int} {I1 : Nat → Nat → Int} {S1 : PS} (c : Ca d mX0_neighbourAt [vR (some (11, 0, as0)), vI xs1, vI xs2] (I, S) (.inl (some (vI z))) (I1, S1)) (k : Ev (d + 1) mX0_behindOf (48, [some (vR (some (11, 0, a0))), some (vI x1), some (vI x2), some (vI x3), some (vI x4)], [vI z], (I1, S1)) r) : Ev (d + 1) mX0_behindOf (45, [some (vR (some (11, 0, a0))), some (vI x1), some (vI x2), some (vI x3), some (vI x4)], [vI xs2, vI xs1, vR (some (11, 0, as0))], (I, S)) r :=
  s_cvI rfl rfl rfl rfl rfl c k
theorem b_X0_behindOf_48 {d : Nat} {I : Nat → Nat → Int} {S : PS} {a0 : Nat} {x1 x2 x3 x4 xs0 : Int} : Ev d mX0_behindOf (48, [some (vR (some (11, 0, a0))), some (vI x1), some (vI x2), some (vI x3), some (vI x4)], [vI xs0], (I, S)) (.inl (some (vI xs0)), (I, S)) :=
  s_ret rfl rfl
theorem b_X0_behindOf_49 {d : Nat} {r : PO × PM} {I : Nat → Nat → Int} {S : PS} {a0 : Nat} {x1 x2 x3 x4 : Int} (ho1 : -2147483648 ≤ x4 + 1 ∧ x4 + 1 ≤ 2147483647) (k : Ev d mX0_behindOf (10, [some (vR (some (11, 0, a0))), some (vI x1), some (vI x2), some (vI x3), some (vI (x4 + 1))], [], (I, S)) r) : Ev d mX0_behindOf (49, [some (vR (some (11, 0, a0))), some (vI x1), some (vI x2), some (vI x3), some (vI x4)], [], (I, S)) r :=
  s_iincp [some (vR (some (11, 0, a0))), some (vI x1), some (vI x2), some (vI x3), some (vI (x4 + 1))] rfl rfl ho1 rfl <|
  s_goto 10 rfl rfl k
theorem b_X0_behindOf_55 {d : Nat} {I : Nat → Nat → Int} {S : PS} {a0 : Nat} {x1 x2 x3 x4 : Int} : Ev d mX0_behindOf (55, [some (vR (some (11, 0, a0))), some (vI x1), some (vI x2), some (vI x3), some (vI x4)], [], (I, S)) (.inl (some (vI (-1))), (I, S)) :=
  s_iconst rfl rfl <|
  s_ret rfl rfl
theorem b_X0_rowOf_0 {d : Nat} {r : PO × PM} {I : Nat → Nat → Int} {S : PS} {a0 n2 a2 : Nat} {x1 : Int} (k : Ev d mX0_rowOf (2, [some (vR (some (11, 0, a0))), some (vI x1), some (vR (some (0, n2, a2))), some (vI 0)], [], (I, S)) r) : Ev d mX0_rowOf (0, [some (vR (some (11, 0, a0))), some (vI x1), some (vR (some (0, n2, a2))), none], [], (I, S)) r :=
  s_iconst rfl rfl <|
  s_istore_n [some (vR (some (11, 0, a0))), some (vI x1), some (vR (some (0, n2, a2))), some (vI 0)] rfl rfl <|
  k
theorem b_X0_rowOf_2 {d : Nat} {r : PO × PM} {I : Nat → Nat → Int} {S : PS} {a0 n2 a2 p1 q1 : Nat} {x1 x3 : Int} (hr1 : S.1 a0 3 = some (0, q1, p1)) (hi2 : 0 ≤ x1 ∧ x1 < (q1 : Nat)) (kt : I p1 x1.toNat ≤ x3 → Ev d mX0_rowOf (38, [some (vR (some (11, 0, a0))), some (vI x1), some (vR (some (0, n2, a2))), some (vI x3)], [], (I, S)) r) (kf : x3 < I p1 x1.toNat → Ev d mX0_rowOf (12, [some (vR (some (11, 0, a0))), some (vI x1), some (vR (some (0, n2, a2))), some (vI x3)], [], (I, S)) r) : Ev d mX0_rowOf (2, [some (vR (some (11, 0, a0))), some (vI x1), some (vR (some (0, n2, a2))), some (vI x3)], [], (I, S)) r :=
  s_iload_n rfl rfl rfl <|
  s_aload_n rfl rfl rfl <|
  s_getR rfl rfl rfl hr1 <|
  s_iload_n rfl rfl rfl <|
  s_iald rfl rfl hi2 <|
  s_icmp_ge 38 rfl rfl kt kf
theorem b_X0_rowOf_12 {d : Nat} {r : PO × PM} {I : Nat → Nat → Int} {S : PS} {a0 n2 a2 : Nat} {x1 x3 : Int} (hn1 : n2 ≤ 100000) (kt : (n2 : Int) ≤ x3 → Ev d mX0_rowOf (38, [some (vR (some (11, 0, a0))), some (vI x1), some (vR (some (0, n2, a2))), some (vI x3)], [], (I, S)) r) (kf : x3 < (n2 : Int) → Ev d mX0_rowOf (18, [some (vR (some (11, 0, a0))), some (vI x1), some (vR (some (0, n2, a2))), some (vI x3)], [], (I, S)) r) : Ev d mX0_rowOf (12, [some (vR (some (11, 0, a0))), some (vI x1), some (vR (some (0, n2, a2))), some (vI x3)], [], (I, S)) r :=
  s_iload_n rfl rfl rfl <|
  s_aload_n rfl rfl rfl <|
  s_alen rfl rfl hn1 <|
  s_icmp_ge 38 rfl rfl kt kf
theorem b_X0_rowOf_18 {d : Nat} {r : PO × PM} {I : Nat → Nat → Int} {S : PS} {a0 n2 a2 p1 q1 : Nat} {x1 x3 z : Int} {I1 : Nat → Nat → Int} {S1 : PS} (hr1 : S.1 a0 3 = some (0, q1, p1)) (c : Ca d mX0_neighbourAt [vR (some (11, 0, a0)), vI x1, vI x3] (I, S) (.inl (some (vI z))) (I1, S1)) (k : Ev (d + 1) mX0_rowOf (30, [some (vR (some (11, 0, a0))), some (vI x1), some (vR (some (0, n2, a2))), some (vI x3)], [vI z, vR (some (0, q1, p1)), vI x3, vR (some (0, n2, a2))], (I1, S1)) r) : Ev (d + 1) mX0_rowOf (18, [some (vR (some (11, 0, a0))), some (vI x1), some (vR (some (0, n2, a2))), some (vI x3)], [], (I, S)) r :=
  s_aload_n rfl rfl rfl <|
  s_iload_n rfl rfl rfl <|
  s_aload_n rfl rfl rfl <|
  s_getR rfl rfl rfl hr1 <|
  s_aload_n rfl rfl rfl <|
  s_iload_n rfl rfl rfl <|
  s_iload_n rfl rfl rfl <|
  s_cvI rfl rfl rfl rfl rfl c k
theorem b_X0_rowOf_30 {d : Nat} {r : PO × PM} {I : Nat → Nat → Int} {S : PS} {a0 n2 a2 ns0 as0 ns2 as2 : Nat} {x1 x3 xs1 xs3 : Int} (hi1 : 0 ≤ xs3 ∧ xs3 < (ns2 : Nat)) (hi2 : 0 ≤ xs1 ∧ xs1 < (ns0 : Nat)) (ho3 : -2147483648 ≤ x3 + 1 ∧ x3 + 1 ≤ 2147483647) (k : Ev d mX0_rowOf (2, [some (vR (some (11, 0, a0))), some (vI x1), some (vR (some (0, n2, a2))), some (vI (x3 + 1))], [], ((up2 I as0 (xs1.toNat) (I as2 xs3.toNat)), S)) r) : Ev d mX0_rowOf (30, [some (vR (some (11, 0, a0))), some (vI x1), some (vR (some (0, n2, a2))), some (vI x3)], [vI xs3, vR (some (0, ns2, as2)), vI xs1, vR (some (0, ns0, as0))], (I, S)) r :=
  s_iald rfl rfl hi1 <|
  s_iast rfl hi2 <|
  s_iincp [some (vR (some (11, 0, a0))), some (vI x1), some (vR (some (0, n2, a2))), some (vI (x3 + 1))] rfl rfl ho3 rfl <|
  s_goto 2 rfl rfl k
theorem b_X0_rowOf_38 {d : Nat} {I : Nat → Nat → Int} {S : PS} {a0 n2 a2 : Nat} {x1 x3 : Int} : Ev d mX0_rowOf (38, [some (vR (some (11, 0, a0))), some (vI x1), some (vR (some (0, n2, a2))), some (vI x3)], [], (I, S)) (.inl none, (I, S)) :=
  s_vret rfl rfl
theorem b_X0_heldPieces_0 {d : Nat} {r : PO × PM} {I : Nat → Nat → Int} {S : PS} {a0 n2 a2 : Nat} {x1 : Int} (k : Ev d mX0_heldPieces (5, [some (vR (some (11, 0, a0))), some (vI x1), some (vR (some (0, n2, a2))), some (vI 0), some (vI 0)], [], (I, S)) r) : Ev d mX0_heldPieces (0, [some (vR (some (11, 0, a0))), some (vI x1), some (vR (some (0, n2, a2))), none, none], [], (I, S)) r :=
  s_iconst rfl rfl <|
  s_istore_n [some (vR (some (11, 0, a0))), some (vI x1), some (vR (some (0, n2, a2))), some (vI 0), none] rfl rfl <|
  s_iconst rfl rfl <|
  s_istore [some (vR (some (11, 0, a0))), some (vI x1), some (vR (some (0, n2, a2))), some (vI 0), some (vI 0)] rfl rfl <|
  k
theorem b_X0_heldPieces_5 {d : Nat} {r : PO × PM} {I : Nat → Nat → Int} {S : PS} {a0 n2 a2 : Nat} {x1 x3 x4 : Int} (kt : I a0 1 ≤ x4 → Ev d mX0_heldPieces (42, [some (vR (some (11, 0, a0))), some (vI x1), some (vR (some (0, n2, a2))), some (vI x3), some (vI x4)], [], (I, S)) r) (kf : x4 < I a0 1 → Ev d mX0_heldPieces (14, [some (vR (some (11, 0, a0))), some (vI x1), some (vR (some (0, n2, a2))), some (vI x3), some (vI x4)], [], (I, S)) r) : Ev d mX0_heldPieces (5, [some (vR (some (11, 0, a0))), some (vI x1), some (vR (some (0, n2, a2))), some (vI x3), some (vI x4)], [], (I, S)) r :=
  s_iload rfl rfl rfl <|
  s_aload_n rfl rfl rfl <|
  s_getI rfl rfl rfl <|
  s_icmp_ge 42 rfl rfl kt kf
theorem b_X0_heldPieces_14 {d : Nat} {r : PO × PM} {I : Nat → Nat → Int} {S : PS} {a0 n2 a2 p1 q1 p3 : Nat} {x1 x3 x4 z : Int} {I1 : Nat → Nat → Int} {S1 : PS} (hr1 : S.1 a0 0 = some (3, q1, p1)) (hi2 : 0 ≤ x4 ∧ x4 < (q1 : Nat)) (hr3 : S.1 p1 (x4.toNat) = some (14, 0, p3)) (c : Ca d mX3_isHeldBy [vR (some (14, 0, p3)), vI x1, vR (some (0, n2, a2))] (I, S) (.inl (some (vI z))) (I1, S1)) (k : Ev (d + 1) mX0_heldPieces (26, [some (vR (some (11, 0, a0))), some (vI x1), some (vR (some (0, n2, a2))), some (vI x3), some (vI x4)], [vI z], (I1, S1)) r) : Ev (d + 1) mX0_heldPieces (14, [some (vR (some (11, 0, a0))), some (vI x1), some (vR (some (0, n2, a2))), some (vI x3), some (vI x4)], [], (I, S)) r :=
  s_aload_n rfl rfl rfl <|
  s_getR rfl rfl rfl hr1 <|
  s_iload rfl rfl rfl <|
  s_aald rfl rfl hi2 hr3 <|
  s_iload_n rfl rfl rfl <|
  s_aload_n rfl rfl rfl <|
  s_cvI rfl rfl rfl rfl rfl c k
theorem b_X0_heldPieces_26 {d : Nat} {r : PO × PM} {I : Nat → Nat → Int} {S : PS} {a0 n2 a2 : Nat} {x1 x3 x4 xs0 : Int} (kt : xs0 = 0 → Ev d mX0_heldPieces (36, [some (vR (some (11, 0, a0))), some (vI x1), some (vR (some (0, n2, a2))), some (vI x3), some (vI x4)], [], (I, S)) r) (kf : xs0 ≠ 0 → Ev d mX0_heldPieces (29, [some (vR (some (11, 0, a0))), some (vI x1), some (vR (some (0, n2, a2))), some (vI x3), some (vI x4)], [], (I, S)) r) : Ev d mX0_heldPieces (26, [some (vR (some (11, 0, a0))), some (vI x1), some (vR (some (0, n2, a2))), some (vI x3), some (vI x4)], [vI xs0], (I, S)) r :=
  s_if_eq 36 rfl rfl kt kf
theorem b_X0_heldPieces_29 {d : Nat} {r : PO × PM} {I : Nat → Nat → Int} {S : PS} {a0 n2 a2 : Nat} {x1 x3 x4 : Int} (k : Ev d mX0_heldPieces (36, [some (vR (some (11, 0, a0))), some (vI x1), some (vR (some (0, n2, a2))), some (vI (p_or x3 (p_shl 1 x4))), some (vI x4)], [], (I, S)) r) : Ev d mX0_heldPieces (29, [some (vR (some (11, 0, a0))), some (vI x1), some (vR (some (0, n2, a2))), some (vI x3), some (vI x4)], [], (I, S)) r :=
  s_iload_n rfl rfl rfl <|
  s_iconst rfl rfl <|
  s_iload rfl rfl rfl <|
  s_ishl rfl <|
  s_ior rfl <|
  s_istore_n [some (vR (some (11, 0, a0))), some (vI x1), some (vR (some (0, n2, a2))), some (vI (p_or x3 (p_shl 1 x4))), some (vI x4)] rfl rfl <|
  k
theorem b_X0_heldPieces_36 {d : Nat} {r : PO × PM} {I : Nat → Nat → Int} {S : PS} {a0 n2 a2 : Nat} {x1 x3 x4 : Int} (ho1 : -2147483648 ≤ x4 + 1 ∧ x4 + 1 ≤ 2147483647) (k : Ev d mX0_heldPieces (5, [some (vR (some (11, 0, a0))), some (vI x1), some (vR (some (0, n2, a2))), some (vI x3), some (vI (x4 + 1))], [], (I, S)) r) : Ev d mX0_heldPieces (36, [some (vR (some (11, 0, a0))), some (vI x1), some (vR (some (0, n2, a2))), some (vI x3), some (vI x4)], [], (I, S)) r :=
  s_iincp [some (vR (some (11, 0, a0))), some (vI x1), some (vR (some (0, n2, a2))), some (vI x3), some (vI (x4 + 1))] rfl rfl ho1 rfl <|
  s_goto 5 rfl rfl k
theorem b_X0_heldPieces_42 {d : Nat} {I : Nat → Nat → Int} {S : PS} {a0 n2 a2 : Nat} {x1 x3 x4 : Int} : Ev d mX0_heldPieces (42, [some (vR (some (11, 0, a0))), some (vI x1), some (vR (some (0, n2, a2))), some (vI x3), some (vI x4)], [], (I, S)) (.inl (some (vI x3)), (I, S)) :=
  s_iload_n rfl rfl rfl <|
  s_ret rfl rfl
theorem b_X1_init_0 {d : Nat} {h : PM} {a0 : Nat} : Ev d mX1_init (0, [some (vR (some (12, 0, a0)))], [], h) (.inl none, m_sr (m_new (m_sr (m_new (m_sr (m_new (m_sr (m_new h 0 594 594) a0 0 (some (0, 594, (m_sz h)))) 0 3 3) a0 1 (some (0, 3, (m_sz (m_sr (m_new h 0 594 594) a0 0 (some (0, 594, (m_sz h)))))))) 0 7 7) a0 2 (some (0, 7, (m_sz (m_sr (m_new (m_sr (m_new h 0 594 594) a0 0 (some (0, 594, (m_sz h)))) 0 3 3) a0 1 (some (0, 3, (m_sz (m_sr (m_new h 0 594 594) a0 0 (some (0, 594, (m_sz h)))))))))))) 0 6 6) a0 3 (some (0, 6, (m_sz (m_sr (m_new (m_sr (m_new (m_sr (m_new h 0 594 594) a0 0 (some (0, 594, (m_sz h)))) 0 3 3) a0 1 (some (0, 3, (m_sz (m_sr (m_new h 0 594 594) a0 0 (some (0, 594, (m_sz h)))))))) 0 7 7) a0 2 (some (0, 7, (m_sz (m_sr (m_new (m_sr (m_new h 0 594 594) a0 0 (some (0, 594, (m_sz h)))) 0 3 3) a0 1 (some (0, 3, (m_sz (m_sr (m_new h 0 594 594) a0 0 (some (0, 594, (m_sz h)))))))))))))))) :=
  s_aload_n rfl rfl rfl <|
  s_obj rfl rfl rfl <|
  s_aload_n rfl rfl rfl <|
  s_sipush rfl rfl <|
  s_newa (n := 594) rfl (Or.inl ⟨rfl, rfl⟩) (by decide) <|
  s_putR rfl rfl rfl <|
  s_aload_n rfl rfl rfl <|
  s_iconst rfl rfl <|
  s_newa (n := 3) rfl (Or.inl ⟨rfl, rfl⟩) (by decide) <|
  s_putR rfl rfl rfl <|
  s_aload_n rfl rfl rfl <|
  s_bipush rfl rfl <|
  s_newa (n := 7) rfl (Or.inl ⟨rfl, rfl⟩) (by decide) <|
  s_putR rfl rfl rfl <|
  s_aload_n rfl rfl rfl <|
  s_bipush rfl rfl <|
  s_newa (n := 6) rfl (Or.inl ⟨rfl, rfl⟩) (by decide) <|
  s_putR rfl rfl rfl <|
  s_vret rfl rfl
theorem b_X1_tally_0 {d : Nat} {r : PO × PM} {I : Nat → Nat → Int} {S : PS} {a0 a2 n3 a3 p1 q1 : Nat} {x1 x4 : Int} (hr1 : S.1 a0 1 = some (0, q1, p1)) (ho2 : -2147483648 ≤ x1 - 5 ∧ x1 - 5 ≤ 2147483647) (hi3 : 0 ≤ x1 - 5 ∧ x1 - 5 < (q1 : Nat)) (kt : I p1 (x1 - 5).toNat ≠ 0 → Ev d mX1_tally (16, [some (vR (some (12, 0, a0))), some (vI x1), some (vR (some (11, 0, a2))), some (vR (some (0, n3, a3))), some (vI x4), none, none, none, none, none, none, none, none], [], (I, S)) r) (kf : I p1 (x1 - 5).toNat = 0 → Ev d mX1_tally (11, [some (vR (some (12, 0, a0))), some (vI x1), some (vR (some (11, 0, a2))), some (vR (some (0, n3, a3))), some (vI x4), none, none, none, none, none, none, none, none], [], (I, S)) r) : Ev d mX1_tally (0, [some (vR (some (12, 0, a0))), some (vI x1), some (vR (some (11, 0, a2))), some (vR (some (0, n3, a3))), some (vI x4), none, none, none, none, none, none, none, none], [], (I, S)) r :=
  s_aload_n rfl rfl rfl <|
  s_getR rfl rfl rfl hr1 <|
  s_iload_n rfl rfl rfl <|
  s_iconst rfl rfl <|
  s_isubp rfl ho2 <|
  s_iald rfl rfl hi3 <|
  s_if_ne 16 rfl rfl kt kf
theorem b_X1_tally_11 {d : Nat} {r : PO × PM} {I : Nat → Nat → Int} {S : PS} {a0 a2 n3 a3 : Nat} {x1 x4 : Int} {I1 : Nat → Nat → Int} {S1 : PS} (c : Ca d mX1_findRows [vR (some (12, 0, a0)), vI x1] (I, S) (.inl none) (I1, S1)) (k : Ev (d + 1) mX1_tally (16, [some (vR (some (12, 0, a0))), some (vI x1), some (vR (some (11, 0, a2))), some (vR (some (0, n3, a3))), some (vI x4), none, none, none, none, none, none, none, none], [], (I1, S1)) r) : Ev (d + 1) mX1_tally (11, [some (vR (some (12, 0, a0))), some (vI x1), some (vR (some (11, 0, a2))), some (vR (some (0, n3, a3))), some (vI x4), none, none, none, none, none, none, none, none], [], (I, S)) r :=
  s_aload_n rfl rfl rfl <|
  s_iload_n rfl rfl rfl <|
  s_cvV rfl rfl rfl rfl rfl c k
theorem b_X1_tally_16 {d : Nat} {r : PO × PM} {I : Nat → Nat → Int} {S : PS} {a0 a2 n3 a3 p1 q1 : Nat} {x1 x4 : Int} (hr1 : S.1 a0 1 = some (0, q1, p1)) (ho2 : -2147483648 ≤ x1 - 5 ∧ x1 - 5 ≤ 2147483647) (hi3 : 0 ≤ x1 - 5 ∧ x1 - 5 < (q1 : Nat)) (k : Ev d mX1_tally (41, [some (vR (some (12, 0, a0))), some (vI x1), some (vR (some (11, 0, a2))), some (vR (some (0, n3, a3))), some (vI x4), some (vI (I p1 (x1 - 5).toNat)), some (vI 0), some (vI 0), some (vI (-1)), some (vI 0), some (vI 0), none, none], [], (I, S)) r) : Ev d mX1_tally (16, [some (vR (some (12, 0, a0))), some (vI x1), some (vR (some (11, 0, a2))), some (vR (some (0, n3, a3))), some (vI x4), none, none, none, none, none, none, none, none], [], (I, S)) r :=
  s_aload_n rfl rfl rfl <|
  s_getR rfl rfl rfl hr1 <|
  s_iload_n rfl rfl rfl <|
  s_iconst rfl rfl <|
  s_isubp rfl ho2 <|
  s_iald rfl rfl hi3 <|
  s_istore [some (vR (some (12, 0, a0))), some (vI x1), some (vR (some (11, 0, a2))), some (vR (some (0, n3, a3))), some (vI x4), some (vI (I p1 (x1 - 5).toNat)), none, none, none, none, none, none, none] rfl rfl <|
  s_iconst rfl rfl <|
  s_istore [some (vR (some (12, 0, a0))), some (vI x1), some (vR (some (11, 0, a2))), some (vR (some (0, n3, a3))), some (vI x4), some (vI (I p1 (x1 - 5).toNat)), some (vI 0), none, none, none, none, none, none] rfl rfl <|
  s_iconst rfl rfl <|
  s_istore [some (vR (some (12, 0, a0))), some (vI x1), some (vR (some (11, 0, a2))), some (vR (some (0, n3, a3))), some (vI x4), some (vI (I p1 (x1 - 5).toNat)), some (vI 0), some (vI 0), none, none, none, none, none] rfl rfl <|
  s_iconst rfl rfl <|
  s_istore [some (vR (some (12, 0, a0))), some (vI x1), some (vR (some (11, 0, a2))), some (vR (some (0, n3, a3))), some (vI x4), some (vI (I p1 (x1 - 5).toNat)), some (vI 0), some (vI 0), some (vI (-1)), none, none, none, none] rfl rfl <|
  s_iconst rfl rfl <|
  s_istore [some (vR (some (12, 0, a0))), some (vI x1), some (vR (some (11, 0, a2))), some (vR (some (0, n3, a3))), some (vI x4), some (vI (I p1 (x1 - 5).toNat)), some (vI 0), some (vI 0), some (vI (-1)), some (vI 0), none, none, none] rfl rfl <|
  s_iconst rfl rfl <|
  s_istore [some (vR (some (12, 0, a0))), some (vI x1), some (vR (some (11, 0, a2))), some (vR (some (0, n3, a3))), some (vI x4), some (vI (I p1 (x1 - 5).toNat)), some (vI 0), some (vI 0), some (vI (-1)), some (vI 0), some (vI 0), none, none] rfl rfl <|
  k
theorem b_X1_tally_41 {d : Nat} {r : PO × PM} {I : Nat → Nat → Int} {S : PS} {a0 a2 n3 a3 : Nat} {x1 x4 x5 x6 x7 x8 x9 x10 : Int} (kt : x5 ≤ x10 → Ev d mX1_tally (151, [some (vR (some (12, 0, a0))), some (vI x1), some (vR (some (11, 0, a2))), some (vR (some (0, n3, a3))), some (vI x4), some (vI x5), some (vI x6), some (vI x7), some (vI x8), some (vI x9), some (vI x10), none, none], [], (I, S)) r) (kf : x10 < x5 → Ev d mX1_tally (48, [some (vR (some (12, 0, a0))), some (vI x1), some (vR (some (11, 0, a2))), some (vR (some (0, n3, a3))), some (vI x4), some (vI x5), some (vI x6), some (vI x7), some (vI x8), some (vI x9), some (vI x10), none, none], [], (I, S)) r) : Ev d mX1_tally (41, [some (vR (some (12, 0, a0))), some (vI x1), some (vR (some (11, 0, a2))), some (vR (some (0, n3, a3))), some (vI x4), some (vI x5), some (vI x6), some (vI x7), some (vI x8), some (vI x9), some (vI x10), none, none], [], (I, S)) r :=
  s_iload rfl rfl rfl <|
  s_iload rfl rfl rfl <|
  s_icmp_ge 151 rfl rfl kt kf
theorem b_X1_tally_48 {d : Nat} {r : PO × PM} {I : Nat → Nat → Int} {S : PS} {a0 a2 n3 a3 p1 q1 : Nat} {x1 x4 x5 x6 x7 x8 x9 x10 : Int} {I1 : Nat → Nat → Int} {S1 : PS} (hr1 : S.1 a0 0 = some (0, q1, p1)) (ho2 : -2147483648 ≤ x1 - 5 ∧ x1 - 5 ≤ 2147483647) (ho3 : -2147483648 ≤ (x1 - 5) * 198 ∧ (x1 - 5) * 198 ≤ 2147483647) (ho4 : -2147483648 ≤ ((x1 - 5) * 198) + x10 ∧ ((x1 - 5) * 198) + x10 ≤ 2147483647) (hi5 : 0 ≤ ((x1 - 5) * 198) + x10 ∧ ((x1 - 5) * 198) + x10 < (q1 : Nat)) (c : Ca d mX1_takeDigits [vR (some (12, 0, a0)), vI (I p1 (((x1 - 5) * 198) + x10).toNat), vI x1] (I, S) (.inl none) (I1, S1)) (k : Ev (d + 1) mX1_tally (72, [some (vR (some (12, 0, a0))), some (vI x1), some (vR (some (11, 0, a2))), some (vR (some (0, n3, a3))), some (vI x4), some (vI x5), some (vI x6), some (vI x7), some (vI x8), some (vI x9), some (vI x10), some (vI (I p1 (((x1 - 5) * 198) + x10).toNat)), none], [], (I1, S1)) r) : Ev (d + 1) mX1_tally (48, [some (vR (some (12, 0, a0))), some (vI x1), some (vR (some (11, 0, a2))), some (vR (some (0, n3, a3))), some (vI x4), some (vI x5), some (vI x6), some (vI x7), some (vI x8), some (vI x9), some (vI x10), none, none], [], (I, S)) r :=
  s_aload_n rfl rfl rfl <|
  s_getR rfl rfl rfl hr1 <|
  s_iload_n rfl rfl rfl <|
  s_iconst rfl rfl <|
  s_isubp rfl ho2 <|
  s_sipush rfl rfl <|
  s_imulp rfl ho3 <|
  s_iload rfl rfl rfl <|
  s_iaddp rfl ho4 <|
  s_iald rfl rfl hi5 <|
  s_istore [some (vR (some (12, 0, a0))), some (vI x1), some (vR (some (11, 0, a2))), some (vR (some (0, n3, a3))), some (vI x4), some (vI x5), some (vI x6), some (vI x7), some (vI x8), some (vI x9), some (vI x10), some (vI (I p1 (((x1 - 5) * 198) + x10).toNat)), none] rfl rfl <|
  s_aload_n rfl rfl rfl <|
  s_iload rfl rfl rfl <|
  s_iload_n rfl rfl rfl <|
  s_cvV rfl rfl rfl rfl rfl c k
theorem b_X1_tally_72 {d : Nat} {r : PO × PM} {I : Nat → Nat → Int} {S : PS} {a0 a2 n3 a3 p1 p2 q2 : Nat} {x1 x4 x5 x6 x7 x8 x9 x10 x11 z : Int} {I1 : Nat → Nat → Int} {S1 : PS} (hr1 : S.1 a2 2 = some (17, 0, p1)) (hr2 : S.1 a0 2 = some (0, q2, p2)) (c : Ca d mX7_behind [vR (some (17, 0, p1)), vI x1, vR (some (0, q2, p2)), vR (some (0, n3, a3))] (I, S) (.inl (some (vI z))) (I1, S1)) (k : Ev (d + 1) mX1_tally (85, [some (vR (some (12, 0, a0))), some (vI x1), some (vR (some (11, 0, a2))), some (vR (some (0, n3, a3))), some (vI x4), some (vI x5), some (vI x6), some (vI x7), some (vI x8), some (vI x9), some (vI x10), some (vI x11), none], [vI z], (I1, S1)) r) : Ev (d + 1) mX1_tally (72, [some (vR (some (12, 0, a0))), some (vI x1), some (vR (some (11, 0, a2))), some (vR (some (0, n3, a3))), some (vI x4), some (vI x5), some (vI x6), some (vI x7), some (vI x8), some (vI x9), some (vI x10), some (vI x11), none], [], (I, S)) r :=
  s_aload_n rfl rfl rfl <|
  s_getR rfl rfl rfl hr1 <|
  s_iload_n rfl rfl rfl <|
  s_aload_n rfl rfl rfl <|
  s_getR rfl rfl rfl hr2 <|
  s_aload_n rfl rfl rfl <|
  s_cvI rfl rfl rfl rfl rfl c k
theorem b_X1_tally_85 {d : Nat} {r : PO × PM} {I : Nat → Nat → Int} {S : PS} {a0 a2 n3 a3 : Nat} {x1 x4 x5 x6 x7 x8 x9 x10 x11 xs0 : Int} (kt : x10 ≠ 0 → Ev d mX1_tally (97, [some (vR (some (12, 0, a0))), some (vI x1), some (vR (some (11, 0, a2))), some (vR (some (0, n3, a3))), some (vI x4), some (vI x5), some (vI x6), some (vI x7), some (vI x8), some (vI x9), some (vI x10), some (vI x11), some (vI xs0)], [], (I, S)) r) (kf : x10 = 0 → Ev d mX1_tally (92, [some (vR (some (12, 0, a0))), some (vI x1), some (vR (some (11, 0, a2))), some (vR (some (0, n3, a3))), some (vI x4), some (vI x5), some (vI x6), some (vI x7), some (vI x8), some (vI x9), some (vI x10), some (vI x11), some (vI xs0)], [], (I, S)) r) : Ev d mX1_tally (85, [some (vR (some (12, 0, a0))), some (vI x1), some (vR (some (11, 0, a2))), some (vR (some (0, n3, a3))), some (vI x4), some (vI x5), some (vI x6), some (vI x7), some (vI x8), some (vI x9), some (vI x10), some (vI x11), none], [vI xs0], (I, S)) r :=
  s_istore [some (vR (some (12, 0, a0))), some (vI x1), some (vR (some (11, 0, a2))), some (vR (some (0, n3, a3))), some (vI x4), some (vI x5), some (vI x6), some (vI x7), some (vI x8), some (vI x9), some (vI x10), some (vI x11), some (vI xs0)] rfl rfl <|
  s_iload rfl rfl rfl <|
  s_if_ne 97 rfl rfl kt kf
theorem b_X1_tally_92 {d : Nat} {r : PO × PM} {I : Nat → Nat → Int} {S : PS} {a0 a2 n3 a3 : Nat} {x1 x4 x5 x6 x7 x8 x9 x10 x11 x12 : Int} (k : Ev d mX1_tally (104, [some (vR (some (12, 0, a0))), some (vI x1), some (vR (some (11, 0, a2))), some (vR (some (0, n3, a3))), some (vI x4), some (vI x5), some (vI x6), some (vI x7), some (vI x8), some (vI x9), some (vI x10), some (vI x11), some (vI x12)], [vI x12], (I, S)) r) : Ev d mX1_tally (92, [some (vR (some (12, 0, a0))), some (vI x1), some (vR (some (11, 0, a2))), some (vR (some (0, n3, a3))), some (vI x4), some (vI x5), some (vI x6), some (vI x7), some (vI x8), some (vI x9), some (vI x10), some (vI x11), some (vI x12)], [], (I, S)) r :=
  s_iload rfl rfl rfl <|
  s_goto 104 rfl rfl k
theorem b_X1_tally_97 {d : Nat} {r : PO × PM} {I : Nat → Nat → Int} {S : PS} {a0 a2 n3 a3 : Nat} {x1 x4 x5 x6 x7 x8 x9 x10 x11 x12 : Int} (k : Ev d mX1_tally (104, [some (vR (some (12, 0, a0))), some (vI x1), some (vR (some (11, 0, a2))), some (vR (some (0, n3, a3))), some (vI x4), some (vI x5), some (vI x6), some (vI x7), some (vI x8), some (vI x9), some (vI x10), some (vI x11), some (vI x12)], [vI (p_max x9 x12)], (I, S)) r) : Ev d mX1_tally (97, [some (vR (some (12, 0, a0))), some (vI x1), some (vR (some (11, 0, a2))), some (vR (some (0, n3, a3))), some (vI x4), some (vI x5), some (vI x6), some (vI x7), some (vI x8), some (vI x9), some (vI x10), some (vI x11), some (vI x12)], [], (I, S)) r :=
  s_iload rfl rfl rfl <|
  s_iload rfl rfl rfl <|
  s_mm rfl rfl (Or.inl ⟨rfl, rfl⟩) rfl <|
  k
theorem b_X1_tally_104 {d : Nat} {r : PO × PM} {I : Nat → Nat → Int} {S : PS} {a0 a2 n3 a3 : Nat} {x1 x4 x5 x6 x7 x8 x9 x10 x11 x12 xs0 : Int} (kt : x12 ≤ 0 → Ev d mX1_tally (145, [some (vR (some (12, 0, a0))), some (vI x1), some (vR (some (11, 0, a2))), some (vR (some (0, n3, a3))), some (vI x4), some (vI x5), some (vI x6), some (vI x7), some (vI x8), some (vI xs0), some (vI x10), some (vI x11), some (vI x12)], [], (I, S)) r) (kf : 0 < x12 → Ev d mX1_tally (111, [some (vR (some (12, 0, a0))), some (vI x1), some (vR (some (11, 0, a2))), some (vR (some (0, n3, a3))), some (vI x4), some (vI x5), some (vI x6), some (vI x7), some (vI x8), some (vI xs0), some (vI x10), some (vI x11), some (vI x12)], [], (I, S)) r) : Ev d mX1_tally (104, [some (vR (some (12, 0, a0))), some (vI x1), some (vR (some (11, 0, a2))), some (vR (some (0, n3, a3))), some (vI x4), some (vI x5), some (vI x6), some (vI x7), some (vI x8), some (vI x9), some (vI x10), some (vI x11), some (vI x12)], [vI xs0], (I, S)) r :=
  s_istore [some (vR (some (12, 0, a0))), some (vI x1), some (vR (some (11, 0, a2))), some (vR (some (0, n3, a3))), some (vI x4), some (vI x5), some (vI x6), some (vI x7), some (vI x8), some (vI xs0), some (vI x10), some (vI x11), some (vI x12)] rfl rfl <|
  s_iload rfl rfl rfl <|
  s_if_le 145 rfl rfl kt kf
theorem b_X1_tally_111 {d : Nat} {r : PO × PM} {I : Nat → Nat → Int} {S : PS} {a0 a2 n3 a3 p2 q2 : Nat} {x1 x4 x5 x6 x7 x8 x9 x10 x11 x12 z : Int} {I1 : Nat → Nat → Int} {S1 : PS} (ho1 : -2147483648 ≤ x6 + 1 ∧ x6 + 1 ≤ 2147483647) (hr2 : S.1 a0 2 = some (0, q2, p2)) (c : Ca d mX0_heldPieces [vR (some (11, 0, a2)), vI x1, vR (some (0, q2, p2))] (I, S) (.inl (some (vI z))) (I1, S1)) (k : Ev (d + 1) mX1_tally (123, [some (vR (some (12, 0, a0))), some (vI x1), some (vR (some (11, 0, a2))), some (vR (some (0, n3, a3))), some (vI x4), some (vI x5), some (vI (x6 + 1)), some (vI x7), some (vI x8), some (vI x9), some (vI x10), some (vI x11), some (vI x12)], [vI z], (I1, S1)) r) : Ev (d + 1) mX1_tally (111, [some (vR (some (12, 0, a0))), some (vI x1), some (vR (some (11, 0, a2))), some (vR (some (0, n3, a3))), some (vI x4), some (vI x5), some (vI x6), some (vI x7), some (vI x8), some (vI x9), some (vI x10), some (vI x11), some (vI x12)], [], (I, S)) r :=
  s_iincp [some (vR (some (12, 0, a0))), some (vI x1), some (vR (some (11, 0, a2))), some (vR (some (0, n3, a3))), some (vI x4), some (vI x5), some (vI (x6 + 1)), some (vI x7), some (vI x8), some (vI x9), some (vI x10), some (vI x11), some (vI x12)] rfl rfl ho1 rfl <|
  s_aload_n rfl rfl rfl <|
  s_iload_n rfl rfl rfl <|
  s_aload_n rfl rfl rfl <|
  s_getR rfl rfl rfl hr2 <|
  s_cvI rfl rfl rfl rfl rfl c k
theorem b_X1_tally_123 {d : Nat} {r : PO × PM} {I : Nat → Nat → Int} {S : PS} {a0 a2 n3 a3 : Nat} {x1 x4 x5 x6 x7 x8 x9 x10 x11 x12 xs0 : Int} (kt : p_and xs0 x4 = 0 → Ev d mX1_tally (135, [some (vR (some (12, 0, a0))), some (vI x1), some (vR (some (11, 0, a2))), some (vR (some (0, n3, a3))), some (vI x4), some (vI x5), some (vI x6), some (vI x7), some (vI x8), some (vI x9), some (vI x10), some (vI x11), some (vI x12)], [], (I, S)) r) (kf : p_and xs0 x4 ≠ 0 → Ev d mX1_tally (129, [some (vR (some (12, 0, a0))), some (vI x1), some (vR (some (11, 0, a2))), some (vR (some (0, n3, a3))), some (vI x4), some (vI x5), some (vI x6), some (vI x7), some (vI x8), some (vI x9), some (vI x10), some (vI x11), some (vI x12)], [], (I, S)) r) : Ev d mX1_tally (123, [some (vR (some (12, 0, a0))), some (vI x1), some (vR (some (11, 0, a2))), some (vR (some (0, n3, a3))), some (vI x4), some (vI x5), some (vI x6), some (vI x7), some (vI x8), some (vI x9), some (vI x10), some (vI x11), some (vI x12)], [vI xs0], (I, S)) r :=
  s_iload rfl rfl rfl <|
  s_iand rfl <|
  s_if_eq 135 rfl rfl kt kf
theorem b_X1_tally_129 {d : Nat} {r : PO × PM} {I : Nat → Nat → Int} {S : PS} {a0 a2 n3 a3 : Nat} {x1 x4 x5 x6 x7 x8 x9 x10 x11 x12 : Int} (ho1 : -2147483648 ≤ x7 + 1 ∧ x7 + 1 ≤ 2147483647) (k : Ev d mX1_tally (145, [some (vR (some (12, 0, a0))), some (vI x1), some (vR (some (11, 0, a2))), some (vR (some (0, n3, a3))), some (vI x4), some (vI x5), some (vI x6), some (vI (x7 + 1)), some (vI x8), some (vI x9), some (vI x10), some (vI x11), some (vI x12)], [], (I, S)) r) : Ev d mX1_tally (129, [some (vR (some (12, 0, a0))), some (vI x1), some (vR (some (11, 0, a2))), some (vR (some (0, n3, a3))), some (vI x4), some (vI x5), some (vI x6), some (vI x7), some (vI x8), some (vI x9), some (vI x10), some (vI x11), some (vI x12)], [], (I, S)) r :=
  s_iincp [some (vR (some (12, 0, a0))), some (vI x1), some (vR (some (11, 0, a2))), some (vR (some (0, n3, a3))), some (vI x4), some (vI x5), some (vI x6), some (vI (x7 + 1)), some (vI x8), some (vI x9), some (vI x10), some (vI x11), some (vI x12)] rfl rfl ho1 rfl <|
  s_goto 145 rfl rfl k
theorem b_X1_tally_135 {d : Nat} {r : PO × PM} {I : Nat → Nat → Int} {S : PS} {a0 a2 n3 a3 : Nat} {x1 x4 x5 x6 x7 x8 x9 x10 x11 x12 : Int} (kt : x8 ≠ (-1) → Ev d mX1_tally (145, [some (vR (some (12, 0, a0))), some (vI x1), some (vR (some (11, 0, a2))), some (vR (some (0, n3, a3))), some (vI x4), some (vI x5), some (vI x6), some (vI x7), some (vI x8), some (vI x9), some (vI x10), some (vI x11), some (vI x12)], [], (I, S)) r) (kf : x8 = (-1) → Ev d mX1_tally (141, [some (vR (some (12, 0, a0))), some (vI x1), some (vR (some (11, 0, a2))), some (vR (some (0, n3, a3))), some (vI x4), some (vI x5), some (vI x6), some (vI x7), some (vI x8), some (vI x9), some (vI x10), some (vI x11), some (vI x12)], [], (I, S)) r) : Ev d mX1_tally (135, [some (vR (some (12, 0, a0))), some (vI x1), some (vR (some (11, 0, a2))), some (vR (some (0, n3, a3))), some (vI x4), some (vI x5), some (vI x6), some (vI x7), some (vI x8), some (vI x9), some (vI x10), some (vI x11), some (vI x12)], [], (I, S)) r :=
  s_iload rfl rfl rfl <|
  s_iconst rfl rfl <|
  s_icmp_ne 145 rfl rfl kt kf
theorem b_X1_tally_141 {d : Nat} {r : PO × PM} {I : Nat → Nat → Int} {S : PS} {a0 a2 n3 a3 : Nat} {x1 x4 x5 x6 x7 x8 x9 x10 x11 x12 : Int} (k : Ev d mX1_tally (145, [some (vR (some (12, 0, a0))), some (vI x1), some (vR (some (11, 0, a2))), some (vR (some (0, n3, a3))), some (vI x4), some (vI x5), some (vI x6), some (vI x7), some (vI x11), some (vI x9), some (vI x10), some (vI x11), some (vI x12)], [], (I, S)) r) : Ev d mX1_tally (141, [some (vR (some (12, 0, a0))), some (vI x1), some (vR (some (11, 0, a2))), some (vR (some (0, n3, a3))), some (vI x4), some (vI x5), some (vI x6), some (vI x7), some (vI x8), some (vI x9), some (vI x10), some (vI x11), some (vI x12)], [], (I, S)) r :=
  s_iload rfl rfl rfl <|
  s_istore [some (vR (some (12, 0, a0))), some (vI x1), some (vR (some (11, 0, a2))), some (vR (some (0, n3, a3))), some (vI x4), some (vI x5), some (vI x6), some (vI x7), some (vI x11), some (vI x9), some (vI x10), some (vI x11), some (vI x12)] rfl rfl <|
  k
theorem b_X1_tally_145 {d : Nat} {r : PO × PM} {I : Nat → Nat → Int} {S : PS} {a0 a2 n3 a3 : Nat} {x1 x4 x5 x6 x7 x8 x9 x10 x11 x12 : Int} (ho1 : -2147483648 ≤ x10 + 1 ∧ x10 + 1 ≤ 2147483647) (k : Ev d mX1_tally (41, [some (vR (some (12, 0, a0))), some (vI x1), some (vR (some (11, 0, a2))), some (vR (some (0, n3, a3))), some (vI x4), some (vI x5), some (vI x6), some (vI x7), some (vI x8), some (vI x9), some (vI (x10 + 1)), none, none], [], (I, S)) r) : Ev d mX1_tally (145, [some (vR (some (12, 0, a0))), some (vI x1), some (vR (some (11, 0, a2))), some (vR (some (0, n3, a3))), some (vI x4), some (vI x5), some (vI x6), some (vI x7), some (vI x8), some (vI x9), some (vI x10), some (vI x11), some (vI x12)], [], (I, S)) r :=
  s_iincp [some (vR (some (12, 0, a0))), some (vI x1), some (vR (some (11, 0, a2))), some (vR (some (0, n3, a3))), some (vI x4), some (vI x5), some (vI x6), some (vI x7), some (vI x8), some (vI x9), some (vI (x10 + 1)), some (vI x11), some (vI x12)] rfl rfl ho1 rfl <|
  s_goto 41 rfl rfl (ev_forget [false, false, false, false, false, false, false, false, false, false, false, true, true] rfl k)
theorem b_X1_tally_151 {d : Nat} {I : Nat → Nat → Int} {S : PS} {a0 a2 n3 a3 p1 q1 : Nat} {x1 x4 x5 x6 x7 x8 x9 x10 : Int} (hr1 : S.1 a0 3 = some (0, q1, p1)) (hi2 : 0 < q1) (hi3 : 1 < q1) (hi4 : 2 < q1) (ho5 : -2147483648 ≤ x6 - x7 ∧ x6 - x7 ≤ 2147483647) (hi6 : 3 < q1) (hi7 : 4 < q1) (hi8 : 5 < q1) : Ev d mX1_tally (151, [some (vR (some (12, 0, a0))), some (vI x1), some (vR (some (11, 0, a2))), some (vR (some (0, n3, a3))), some (vI x4), some (vI x5), some (vI x6), some (vI x7), some (vI x8), some (vI x9), some (vI x10), none, none], [], (I, S)) (.inl none, ((up2 (up2 (up2 (up2 (up2 (up2 I p1 0 x5) p1 1 x6) p1 2 x7) p1 3 (x6 - x7)) p1 4 x8) p1 5 x9), S)) :=
  s_aload_n rfl rfl rfl <|
  s_getR rfl rfl rfl hr1 <|
  s_iconst rfl rfl <|
  s_iload rfl rfl rfl <|
  s_iast rfl (p_lit (k := 0) hi2) <|
  s_aload_n rfl rfl rfl <|
  s_getR rfl rfl rfl hr1 <|
  s_iconst rfl rfl <|
  s_iload rfl rfl rfl <|
  s_iast rfl (p_lit (k := 1) hi3) <|
  s_aload_n rfl rfl rfl <|
  s_getR rfl rfl rfl hr1 <|
  s_iconst rfl rfl <|
  s_iload rfl rfl rfl <|
  s_iast rfl (p_lit (k := 2) hi4) <|
  s_aload_n rfl rfl rfl <|
  s_getR rfl rfl rfl hr1 <|
  s_iconst rfl rfl <|
  s_iload rfl rfl rfl <|
  s_iload rfl rfl rfl <|
  s_isubp rfl ho5 <|
  s_iast rfl (p_lit (k := 3) hi6) <|
  s_aload_n rfl rfl rfl <|
  s_getR rfl rfl rfl hr1 <|
  s_iconst rfl rfl <|
  s_iload rfl rfl rfl <|
  s_iast rfl (p_lit (k := 4) hi7) <|
  s_aload_n rfl rfl rfl <|
  s_getR rfl rfl rfl hr1 <|
  s_iconst rfl rfl <|
  s_iload rfl rfl rfl <|
  s_iast rfl (p_lit (k := 5) hi8) <|
  s_vret rfl rfl
theorem b_X1_findRows_0 {d : Nat} {r : PO × PM} {I : Nat → Nat → Int} {S : PS} {a0 : Nat} {x1 : Int} (k : Ev d mX1_findRows (7, [some (vR (some (12, 0, a0))), some (vI x1), some (vI 0), some (vI 1), some (vI 0)], [], (I, S)) r) : Ev d mX1_findRows (0, [some (vR (some (12, 0, a0))), some (vI x1), none, none, none], [], (I, S)) r :=
  s_iconst rfl rfl <|
  s_istore_n [some (vR (some (12, 0, a0))), some (vI x1), some (vI 0), none, none] rfl rfl <|
  s_iconst rfl rfl <|
  s_istore_n [some (vR (some (12, 0, a0))), some (vI x1), some (vI 0), some (vI 1), none] rfl rfl <|
  s_iconst rfl rfl <|
  s_istore [some (vR (some (12, 0, a0))), some (vI x1), some (vI 0), some (vI 1), some (vI 0)] rfl rfl <|
  k
theorem b_X1_findRows_7 {d : Nat} {r : PO × PM} {I : Nat → Nat → Int} {S : PS} {a0 : Nat} {x1 x2 x3 x4 : Int} (kt : x1 ≤ x4 → Ev d mX1_findRows (31, [some (vR (some (12, 0, a0))), some (vI x1), some (vI x2), some (vI x3), some (vI x4)], [], (I, S)) r) (kf : x4 < x1 → Ev d mX1_findRows (13, [some (vR (some (12, 0, a0))), some (vI x1), some (vI x2), some (vI x3), some (vI x4)], [], (I, S)) r) : Ev d mX1_findRows (7, [some (vR (some (12, 0, a0))), some (vI x1), some (vI x2), some (vI x3), some (vI x4)], [], (I, S)) r :=
  s_iload rfl rfl rfl <|
  s_iload_n rfl rfl rfl <|
  s_icmp_ge 31 rfl rfl kt kf
theorem b_X1_findRows_13 {d : Nat} {r : PO × PM} {I : Nat → Nat → Int} {S : PS} {a0 p1 q1 : Nat} {x1 x2 x3 x4 : Int} (hr1 : S.1 a0 2 = some (0, q1, p1)) (hi2 : 0 ≤ x4 ∧ x4 < (q1 : Nat)) (ho3 : -2147483648 ≤ x3 * 3 ∧ x3 * 3 ≤ 2147483647) (ho4 : -2147483648 ≤ x4 + 1 ∧ x4 + 1 ≤ 2147483647) (k : Ev d mX1_findRows (7, [some (vR (some (12, 0, a0))), some (vI x1), some (vI x2), some (vI (x3 * 3)), some (vI (x4 + 1))], [], ((up2 I p1 (x4.toNat) 5), S)) r) : Ev d mX1_findRows (13, [some (vR (some (12, 0, a0))), some (vI x1), some (vI x2), some (vI x3), some (vI x4)], [], (I, S)) r :=
  s_aload_n rfl rfl rfl <|
  s_getR rfl rfl rfl hr1 <|
  s_iload rfl rfl rfl <|
  s_iconst rfl rfl <|
  s_iast rfl hi2 <|
  s_iload_n rfl rfl rfl <|
  s_iconst rfl rfl <|
  s_imulp rfl ho3 <|
  s_istore_n [some (vR (some (12, 0, a0))), some (vI x1), some (vI x2), some (vI (x3 * 3)), some (vI x4)] rfl rfl <|
  s_iincp [some (vR (some (12, 0, a0))), some (vI x1), some (vI x2), some (vI (x3 * 3)), some (vI (x4 + 1))] rfl rfl ho4 rfl <|
  s_goto 7 rfl rfl k
theorem b_X1_findRows_31 {d : Nat} {r : PO × PM} {I : Nat → Nat → Int} {S : PS} {a0 : Nat} {x1 x2 x3 x4 : Int} (k : Ev d mX1_findRows (34, [some (vR (some (12, 0, a0))), some (vI x1), some (vI x2), some (vI x3), some (vI 0)], [], (I, S)) r) : Ev d mX1_findRows (31, [some (vR (some (12, 0, a0))), some (vI x1), some (vI x2), some (vI x3), some (vI x4)], [], (I, S)) r :=
  s_iconst rfl rfl <|
  s_istore [some (vR (some (12, 0, a0))), some (vI x1), some (vI x2), some (vI x3), some (vI 0)] rfl rfl <|
  k
theorem b_X1_findRows_34 {d : Nat} {r : PO × PM} {I : Nat → Nat → Int} {S : PS} {a0 : Nat} {x1 x2 x3 x4 : Int} (kt : x3 ≤ x4 → Ev d mX1_findRows (88, [some (vR (some (12, 0, a0))), some (vI x1), some (vI x2), some (vI x3), some (vI x4)], [], (I, S)) r) (kf : x4 < x3 → Ev d mX1_findRows (40, [some (vR (some (12, 0, a0))), some (vI x1), some (vI x2), some (vI x3), some (vI x4)], [], (I, S)) r) : Ev d mX1_findRows (34, [some (vR (some (12, 0, a0))), some (vI x1), some (vI x2), some (vI x3), some (vI x4)], [], (I, S)) r :=
  s_iload rfl rfl rfl <|
  s_iload_n rfl rfl rfl <|
  s_icmp_ge 88 rfl rfl kt kf
theorem b_X1_findRows_40 {d : Nat} {r : PO × PM} {I : Nat → Nat → Int} {S : PS} {a0 : Nat} {x1 x2 x3 x4 z : Int} {I1 : Nat → Nat → Int} {S1 : PS} (c : Ca d mX1_isLeast [vR (some (12, 0, a0)), vI x1] (I, S) (.inl (some (vI z))) (I1, S1)) (k : Ev (d + 1) mX1_findRows (45, [some (vR (some (12, 0, a0))), some (vI x1), some (vI x2), some (vI x3), some (vI x4)], [vI z], (I1, S1)) r) : Ev (d + 1) mX1_findRows (40, [some (vR (some (12, 0, a0))), some (vI x1), some (vI x2), some (vI x3), some (vI x4)], [], (I, S)) r :=
  s_aload_n rfl rfl rfl <|
  s_iload_n rfl rfl rfl <|
  s_cvI rfl rfl rfl rfl rfl c k
theorem b_X1_findRows_45 {d : Nat} {r : PO × PM} {I : Nat → Nat → Int} {S : PS} {a0 : Nat} {x1 x2 x3 x4 xs0 : Int} (kt : xs0 = 0 → Ev d mX1_findRows (77, [some (vR (some (12, 0, a0))), some (vI x1), some (vI x2), some (vI x3), some (vI x4)], [], (I, S)) r) (kf : xs0 ≠ 0 → Ev d mX1_findRows (48, [some (vR (some (12, 0, a0))), some (vI x1), some (vI x2), some (vI x3), some (vI x4)], [], (I, S)) r) : Ev d mX1_findRows (45, [some (vR (some (12, 0, a0))), some (vI x1), some (vI x2), some (vI x3), some (vI x4)], [vI xs0], (I, S)) r :=
  s_if_eq 77 rfl rfl kt kf
theorem b_X1_findRows_48 {d : Nat} {r : PO × PM} {I : Nat → Nat → Int} {S : PS} {a0 : Nat} {x1 x2 x3 x4 : Int} (kt : 198 ≤ x2 → Ev d mX1_findRows (77, [some (vR (some (12, 0, a0))), some (vI x1), some (vI x2), some (vI x3), some (vI x4)], [], (I, S)) r) (kf : x2 < 198 → Ev d mX1_findRows (55, [some (vR (some (12, 0, a0))), some (vI x1), some (vI x2), some (vI x3), some (vI x4)], [], (I, S)) r) : Ev d mX1_findRows (48, [some (vR (some (12, 0, a0))), some (vI x1), some (vI x2), some (vI x3), some (vI x4)], [], (I, S)) r :=
  s_iload_n rfl rfl rfl <|
  s_sipush rfl rfl <|
  s_icmp_ge 77 rfl rfl kt kf
theorem b_X1_findRows_55 {d : Nat} {r : PO × PM} {I : Nat → Nat → Int} {S : PS} {a0 p1 q1 : Nat} {x1 x2 x3 x4 z : Int} {I1 : Nat → Nat → Int} {S1 : PS} (hr1 : S.1 a0 0 = some (0, q1, p1)) (ho2 : -2147483648 ≤ x1 - 5 ∧ x1 - 5 ≤ 2147483647) (ho3 : -2147483648 ≤ (x1 - 5) * 198 ∧ (x1 - 5) * 198 ≤ 2147483647) (ho4 : -2147483648 ≤ ((x1 - 5) * 198) + x2 ∧ ((x1 - 5) * 198) + x2 ≤ 2147483647) (c : Ca d mX1_digitsOf [vR (some (12, 0, a0)), vI x1] (I, S) (.inl (some (vI z))) (I1, S1)) (k : Ev (d + 1) mX1_findRows (73, [some (vR (some (12, 0, a0))), some (vI x1), some (vI x2), some (vI x3), some (vI x4)], [vI z, vI (((x1 - 5) * 198) + x2), vR (some (0, q1, p1))], (I1, S1)) r) : Ev (d + 1) mX1_findRows (55, [some (vR (some (12, 0, a0))), some (vI x1), some (vI x2), some (vI x3), some (vI x4)], [], (I, S)) r :=
  s_aload_n rfl rfl rfl <|
  s_getR rfl rfl rfl hr1 <|
  s_iload_n rfl rfl rfl <|
  s_iconst rfl rfl <|
  s_isubp rfl ho2 <|
  s_sipush rfl rfl <|
  s_imulp rfl ho3 <|
  s_iload_n rfl rfl rfl <|
  s_iaddp rfl ho4 <|
  s_aload_n rfl rfl rfl <|
  s_iload_n rfl rfl rfl <|
  s_cvI rfl rfl rfl rfl rfl c k
theorem b_X1_findRows_73 {d : Nat} {r : PO × PM} {I : Nat → Nat → Int} {S : PS} {a0 ns0 as0 : Nat} {x1 x2 x3 x4 xs1 xs2 : Int} (hi1 : 0 ≤ xs1 ∧ xs1 < (ns0 : Nat)) (ho2 : -2147483648 ≤ x2 + 1 ∧ x2 + 1 ≤ 2147483647) (k : Ev d mX1_findRows (77, [some (vR (some (12, 0, a0))), some (vI x1), some (vI (x2 + 1)), some (vI x3), some (vI x4)], [], ((up2 I as0 (xs1.toNat) xs2), S)) r) : Ev d mX1_findRows (73, [some (vR (some (12, 0, a0))), some (vI x1), some (vI x2), some (vI x3), some (vI x4)], [vI xs2, vI xs1, vR (some (0, ns0, as0))], (I, S)) r :=
  s_iast rfl hi1 <|
  s_iincp [some (vR (some (12, 0, a0))), some (vI x1), some (vI (x2 + 1)), some (vI x3), some (vI x4)] rfl rfl ho2 rfl <|
  k
theorem b_X1_findRows_77 {d : Nat} {r : PO × PM} {I : Nat → Nat → Int} {S : PS} {a0 : Nat} {x1 x2 x3 x4 : Int} {I1 : Nat → Nat → Int} {S1 : PS} (c : Ca d mX1_nextRow [vR (some (12, 0, a0)), vI x1] (I, S) (.inl none) (I1, S1)) (k : Ev (d + 1) mX1_findRows (82, [some (vR (some (12, 0, a0))), some (vI x1), some (vI x2), some (vI x3), some (vI x4)], [], (I1, S1)) r) : Ev (d + 1) mX1_findRows (77, [some (vR (some (12, 0, a0))), some (vI x1), some (vI x2), some (vI x3), some (vI x4)], [], (I, S)) r :=
  s_aload_n rfl rfl rfl <|
  s_iload_n rfl rfl rfl <|
  s_cvV rfl rfl rfl rfl rfl c k
theorem b_X1_findRows_82 {d : Nat} {r : PO × PM} {I : Nat → Nat → Int} {S : PS} {a0 : Nat} {x1 x2 x3 x4 : Int} (ho1 : -2147483648 ≤ x4 + 1 ∧ x4 + 1 ≤ 2147483647) (k : Ev d mX1_findRows (34, [some (vR (some (12, 0, a0))), some (vI x1), some (vI x2), some (vI x3), some (vI (x4 + 1))], [], (I, S)) r) : Ev d mX1_findRows (82, [some (vR (some (12, 0, a0))), some (vI x1), some (vI x2), some (vI x3), some (vI x4)], [], (I, S)) r :=
  s_iincp [some (vR (some (12, 0, a0))), some (vI x1), some (vI x2), some (vI x3), some (vI (x4 + 1))] rfl rfl ho1 rfl <|
  s_goto 34 rfl rfl k
theorem b_X1_findRows_88 {d : Nat} {I : Nat → Nat → Int} {S : PS} {a0 p1 q1 : Nat} {x1 x2 x3 x4 : Int} (hr1 : S.1 a0 1 = some (0, q1, p1)) (ho2 : -2147483648 ≤ x1 - 5 ∧ x1 - 5 ≤ 2147483647) (hi3 : 0 ≤ x1 - 5 ∧ x1 - 5 < (q1 : Nat)) : Ev d mX1_findRows (88, [some (vR (some (12, 0, a0))), some (vI x1), some (vI x2), some (vI x3), some (vI x4)], [], (I, S)) (.inl none, ((up2 I p1 ((x1 - 5).toNat) x2), S)) :=
  s_aload_n rfl rfl rfl <|
  s_getR rfl rfl rfl hr1 <|
  s_iload_n rfl rfl rfl <|
  s_iconst rfl rfl <|
  s_isubp rfl ho2 <|
  s_iload_n rfl rfl rfl <|
  s_iast rfl hi3 <|
  s_vret rfl rfl
theorem b_X1_nextRow_0 {d : Nat} {r : PO × PM} {I : Nat → Nat → Int} {S : PS} {a0 : Nat} {x1 : Int} (ho1 : -2147483648 ≤ x1 - 1 ∧ x1 - 1 ≤ 2147483647) (k : Ev d mX1_nextRow (4, [some (vR (some (12, 0, a0))), some (vI x1), some (vI (x1 - 1))], [], (I, S)) r) : Ev d mX1_nextRow (0, [some (vR (some (12, 0, a0))), some (vI x1), none], [], (I, S)) r :=
  s_iload_n rfl rfl rfl <|
  s_iconst rfl rfl <|
  s_isubp rfl ho1 <|
  s_istore_n [some (vR (some (12, 0, a0))), some (vI x1), some (vI (x1 - 1))] rfl rfl <|
  k
theorem b_X1_nextRow_4 {d : Nat} {r : PO × PM} {I : Nat → Nat → Int} {S : PS} {a0 : Nat} {x1 x2 : Int} (kt : x2 < 0 → Ev d mX1_nextRow (32, [some (vR (some (12, 0, a0))), some (vI x1), some (vI x2)], [], (I, S)) r) (kf : 0 ≤ x2 → Ev d mX1_nextRow (8, [some (vR (some (12, 0, a0))), some (vI x1), some (vI x2)], [], (I, S)) r) : Ev d mX1_nextRow (4, [some (vR (some (12, 0, a0))), some (vI x1), some (vI x2)], [], (I, S)) r :=
  s_iload_n rfl rfl rfl <|
  s_if_lt 32 rfl rfl kt kf
theorem b_X1_nextRow_8 {d : Nat} {r : PO × PM} {I : Nat → Nat → Int} {S : PS} {a0 p1 q1 : Nat} {x1 x2 : Int} (hr1 : S.1 a0 2 = some (0, q1, p1)) (hi2 : 0 ≤ x2 ∧ x2 < (q1 : Nat)) (kt : I p1 x2.toNat ≠ 7 → Ev d mX1_nextRow (32, [some (vR (some (12, 0, a0))), some (vI x1), some (vI x2)], [], (I, S)) r) (kf : I p1 x2.toNat = 7 → Ev d mX1_nextRow (19, [some (vR (some (12, 0, a0))), some (vI x1), some (vI x2)], [], (I, S)) r) : Ev d mX1_nextRow (8, [some (vR (some (12, 0, a0))), some (vI x1), some (vI x2)], [], (I, S)) r :=
  s_aload_n rfl rfl rfl <|
  s_getR rfl rfl rfl hr1 <|
  s_iload_n rfl rfl rfl <|
  s_iald rfl rfl hi2 <|
  s_bipush rfl rfl <|
  s_icmp_ne 32 rfl rfl kt kf
theorem b_X1_nextRow_19 {d : Nat} {r : PO × PM} {I : Nat → Nat → Int} {S : PS} {a0 p1 q1 : Nat} {x1 x2 : Int} (hr1 : S.1 a0 2 = some (0, q1, p1)) (hi2 : 0 ≤ x2 ∧ x2 < (q1 : Nat)) (ho3 : -2147483648 ≤ x2 - 1 ∧ x2 - 1 ≤ 2147483647) (k : Ev d mX1_nextRow (4, [some (vR (some (12, 0, a0))), some (vI x1), some (vI (x2 - 1))], [], ((up2 I p1 (x2.toNat) 5), S)) r) : Ev d mX1_nextRow (19, [some (vR (some (12, 0, a0))), some (vI x1), some (vI x2)], [], (I, S)) r :=
  s_aload_n rfl rfl rfl <|
  s_getR rfl rfl rfl hr1 <|
  s_iload_n rfl rfl rfl <|
  s_iconst rfl rfl <|
  s_iast rfl hi2 <|
  s_iincpn [some (vR (some (12, 0, a0))), some (vI x1), some (vI (x2 - 1))] rfl rfl ho3 rfl <|
  s_goto 4 rfl rfl k
theorem b_X1_nextRow_32 {d : Nat} {r : PO × PM} {I : Nat → Nat → Int} {S : PS} {a0 : Nat} {x1 x2 : Int} (kt : x2 < 0 → Ev d mX1_nextRow (46, [some (vR (some (12, 0, a0))), some (vI x1), some (vI x2)], [], (I, S)) r) (kf : 0 ≤ x2 → Ev d mX1_nextRow (36, [some (vR (some (12, 0, a0))), some (vI x1), some (vI x2)], [], (I, S)) r) : Ev d mX1_nextRow (32, [some (vR (some (12, 0, a0))), some (vI x1), some (vI x2)], [], (I, S)) r :=
  s_iload_n rfl rfl rfl <|
  s_if_lt 46 rfl rfl kt kf
theorem b_X1_nextRow_36 {d : Nat} {r : PO × PM} {I : Nat → Nat → Int} {S : PS} {a0 p1 q1 : Nat} {x1 x2 : Int} (hr1 : S.1 a0 2 = some (0, q1, p1)) (hi2 : 0 ≤ x2 ∧ x2 < (q1 : Nat)) (ho3 : -2147483648 ≤ I p1 x2.toNat + 1 ∧ I p1 x2.toNat + 1 ≤ 2147483647) (hi4 : 0 ≤ x2 ∧ x2 < (q1 : Nat)) (k : Ev d mX1_nextRow (46, [some (vR (some (12, 0, a0))), some (vI x1), some (vI x2)], [], ((up2 I p1 (x2.toNat) (I p1 x2.toNat + 1)), S)) r) : Ev d mX1_nextRow (36, [some (vR (some (12, 0, a0))), some (vI x1), some (vI x2)], [], (I, S)) r :=
  s_aload_n rfl rfl rfl <|
  s_getR rfl rfl rfl hr1 <|
  s_iload_n rfl rfl rfl <|
  s_dup2 rfl rfl <|
  s_iald rfl rfl hi2 <|
  s_iconst rfl rfl <|
  s_iaddp rfl ho3 <|
  s_iast rfl hi4 <|
  k
theorem b_X1_nextRow_46 {d : Nat} {I : Nat → Nat → Int} {S : PS} {a0 : Nat} {x1 x2 : Int} : Ev d mX1_nextRow (46, [some (vR (some (12, 0, a0))), some (vI x1), some (vI x2)], [], (I, S)) (.inl none, (I, S)) :=
  s_vret rfl rfl
theorem b_X1_isLeast_0 {d : Nat} {r : PO × PM} {I : Nat → Nat → Int} {S : PS} {a0 : Nat} {x1 : Int} (k : Ev d mX1_isLeast (2, [some (vR (some (12, 0, a0))), some (vI x1), some (vI 0)], [], (I, S)) r) : Ev d mX1_isLeast (0, [some (vR (some (12, 0, a0))), some (vI x1), none], [], (I, S)) r :=
  s_iconst rfl rfl <|
  s_istore_n [some (vR (some (12, 0, a0))), some (vI x1), some (vI 0)] rfl rfl <|
  k
theorem b_X1_isLeast_2 {d : Nat} {r : PO × PM} {I : Nat → Nat → Int} {S : PS} {a0 : Nat} {x1 x2 : Int} (kt : x1 ≤ x2 → Ev d mX1_isLeast (37, [some (vR (some (12, 0, a0))), some (vI x1), some (vI x2)], [], (I, S)) r) (kf : x2 < x1 → Ev d mX1_isLeast (7, [some (vR (some (12, 0, a0))), some (vI x1), some (vI x2)], [], (I, S)) r) : Ev d mX1_isLeast (2, [some (vR (some (12, 0, a0))), some (vI x1), some (vI x2)], [], (I, S)) r :=
  s_iload_n rfl rfl rfl <|
  s_iload_n rfl rfl rfl <|
  s_icmp_ge 37 rfl rfl kt kf
theorem b_X1_isLeast_7 {d : Nat} {r : PO × PM} {I : Nat → Nat → Int} {S : PS} {a0 : Nat} {x1 x2 z : Int} {I1 : Nat → Nat → Int} {S1 : PS} (c : Ca d mX1_isLess [vR (some (12, 0, a0)), vI x2, vI 1, vI x1] (I, S) (.inl (some (vI z))) (I1, S1)) (k : Ev (d + 1) mX1_isLeast (14, [some (vR (some (12, 0, a0))), some (vI x1), some (vI x2)], [vI z], (I1, S1)) r) : Ev (d + 1) mX1_isLeast (7, [some (vR (some (12, 0, a0))), some (vI x1), some (vI x2)], [], (I, S)) r :=
  s_aload_n rfl rfl rfl <|
  s_iload_n rfl rfl rfl <|
  s_iconst rfl rfl <|
  s_iload_n rfl rfl rfl <|
  s_cvI rfl rfl rfl rfl rfl c k
theorem b_X1_isLeast_14 {d : Nat} {r : PO × PM} {I : Nat → Nat → Int} {S : PS} {a0 : Nat} {x1 x2 xs0 : Int} (kt : xs0 ≠ 0 → Ev d mX1_isLeast (29, [some (vR (some (12, 0, a0))), some (vI x1), some (vI x2)], [], (I, S)) r) (kf : xs0 = 0 → Ev d mX1_isLeast (17, [some (vR (some (12, 0, a0))), some (vI x1), some (vI x2)], [], (I, S)) r) : Ev d mX1_isLeast (14, [some (vR (some (12, 0, a0))), some (vI x1), some (vI x2)], [vI xs0], (I, S)) r :=
  s_if_ne 29 rfl rfl kt kf
theorem b_X1_isLeast_17 {d : Nat} {r : PO × PM} {I : Nat → Nat → Int} {S : PS} {a0 : Nat} {x1 x2 z : Int} {I1 : Nat → Nat → Int} {S1 : PS} (ho1 : -2147483648 ≤ x1 - 1 ∧ x1 - 1 ≤ 2147483647) (c : Ca d mX1_isLess [vR (some (12, 0, a0)), vI x2, vI (x1 - 1), vI x1] (I, S) (.inl (some (vI z))) (I1, S1)) (k : Ev (d + 1) mX1_isLeast (26, [some (vR (some (12, 0, a0))), some (vI x1), some (vI x2)], [vI z], (I1, S1)) r) : Ev (d + 1) mX1_isLeast (17, [some (vR (some (12, 0, a0))), some (vI x1), some (vI x2)], [], (I, S)) r :=
  s_aload_n rfl rfl rfl <|
  s_iload_n rfl rfl rfl <|
  s_iload_n rfl rfl rfl <|
  s_iconst rfl rfl <|
  s_isubp rfl ho1 <|
  s_iload_n rfl rfl rfl <|
  s_cvI rfl rfl rfl rfl rfl c k
theorem b_X1_isLeast_26 {d : Nat} {r : PO × PM} {I : Nat → Nat → Int} {S : PS} {a0 : Nat} {x1 x2 xs0 : Int} (kt : xs0 = 0 → Ev d mX1_isLeast (31, [some (vR (some (12, 0, a0))), some (vI x1), some (vI x2)], [], (I, S)) r) (kf : xs0 ≠ 0 → Ev d mX1_isLeast (29, [some (vR (some (12, 0, a0))), some (vI x1), some (vI x2)], [], (I, S)) r) : Ev d mX1_isLeast (26, [some (vR (some (12, 0, a0))), some (vI x1), some (vI x2)], [vI xs0], (I, S)) r :=
  s_if_eq 31 rfl rfl kt kf
theorem b_X1_isLeast_29 {d : Nat} {I : Nat → Nat → Int} {S : PS} {a0 : Nat} {x1 x2 : Int} : Ev d mX1_isLeast (29, [some (vR (some (12, 0, a0))), some (vI x1), some (vI x2)], [], (I, S)) (.inl (some (vI 0)), (I, S)) :=
  s_iconst rfl rfl <|
  s_ret rfl rfl
theorem b_X1_isLeast_31 {d : Nat} {r : PO × PM} {I : Nat → Nat → Int} {S : PS} {a0 : Nat} {x1 x2 : Int} (ho1 : -2147483648 ≤ x2 + 1 ∧ x2 + 1 ≤ 2147483647) (k : Ev d mX1_isLeast (2, [some (vR (some (12, 0, a0))), some (vI x1), some (vI (x2 + 1))], [], (I, S)) r) : Ev d mX1_isLeast (31, [some (vR (some (12, 0, a0))), some (vI x1), some (vI x2)], [], (I, S)) r :=
  s_iincp [some (vR (some (12, 0, a0))), some (vI x1), some (vI (x2 + 1))] rfl rfl ho1 rfl <|
  s_goto 2 rfl rfl k
theorem b_X1_isLeast_37 {d : Nat} {I : Nat → Nat → Int} {S : PS} {a0 : Nat} {x1 x2 : Int} : Ev d mX1_isLeast (37, [some (vR (some (12, 0, a0))), some (vI x1), some (vI x2)], [], (I, S)) (.inl (some (vI 1)), (I, S)) :=
  s_iconst rfl rfl <|
  s_ret rfl rfl
theorem b_X1_isLess_0 {d : Nat} {r : PO × PM} {I : Nat → Nat → Int} {S : PS} {a0 : Nat} {x1 x2 x3 : Int} (k : Ev d mX1_isLess (6, [some (vR (some (12, 0, a0))), some (vI x1), some (vI x2), some (vI x3), some (vI x1), some (vI 0)], [], (I, S)) r) : Ev d mX1_isLess (0, [some (vR (some (12, 0, a0))), some (vI x1), some (vI x2), some (vI x3), none, none], [], (I, S)) r :=
  s_iload_n rfl rfl rfl <|
  s_istore [some (vR (some (12, 0, a0))), some (vI x1), some (vI x2), some (vI x3), some (vI x1), none] rfl rfl <|
  s_iconst rfl rfl <|
  s_istore [some (vR (some (12, 0, a0))), some (vI x1), some (vI x2), some (vI x3), some (vI x1), some (vI 0)] rfl rfl <|
  k
theorem b_X1_isLess_6 {d : Nat} {r : PO × PM} {I : Nat → Nat → Int} {S : PS} {a0 : Nat} {x1 x2 x3 x4 x5 : Int} (kt : x3 ≤ x5 → Ev d mX1_isLess (76, [some (vR (some (12, 0, a0))), some (vI x1), some (vI x2), some (vI x3), some (vI x4), some (vI x5)], [], (I, S)) r) (kf : x5 < x3 → Ev d mX1_isLess (12, [some (vR (some (12, 0, a0))), some (vI x1), some (vI x2), some (vI x3), some (vI x4), some (vI x5)], [], (I, S)) r) : Ev d mX1_isLess (6, [some (vR (some (12, 0, a0))), some (vI x1), some (vI x2), some (vI x3), some (vI x4), some (vI x5)], [], (I, S)) r :=
  s_iload rfl rfl rfl <|
  s_iload_n rfl rfl rfl <|
  s_icmp_ge 76 rfl rfl kt kf
theorem b_X1_isLess_12 {d : Nat} {r : PO × PM} {I : Nat → Nat → Int} {S : PS} {a0 p1 q1 : Nat} {x1 x2 x3 x4 x5 : Int} (hr1 : S.1 a0 2 = some (0, q1, p1)) (hi2 : 0 ≤ x4 ∧ x4 < (q1 : Nat)) (hi3 : 0 ≤ x5 ∧ x5 < (q1 : Nat)) (kt : I p1 x4.toNat = I p1 x5.toNat → Ev d mX1_isLess (52, [some (vR (some (12, 0, a0))), some (vI x1), some (vI x2), some (vI x3), some (vI x4), some (vI x5)], [], (I, S)) r) (kf : I p1 x4.toNat ≠ I p1 x5.toNat → Ev d mX1_isLess (29, [some (vR (some (12, 0, a0))), some (vI x1), some (vI x2), some (vI x3), some (vI x4), some (vI x5)], [], (I, S)) r) : Ev d mX1_isLess (12, [some (vR (some (12, 0, a0))), some (vI x1), some (vI x2), some (vI x3), some (vI x4), some (vI x5)], [], (I, S)) r :=
  s_aload_n rfl rfl rfl <|
  s_getR rfl rfl rfl hr1 <|
  s_iload rfl rfl rfl <|
  s_iald rfl rfl hi2 <|
  s_aload_n rfl rfl rfl <|
  s_getR rfl rfl rfl hr1 <|
  s_iload rfl rfl rfl <|
  s_iald rfl rfl hi3 <|
  s_icmp_eq 52 rfl rfl kt kf
theorem b_X1_isLess_29 {d : Nat} {r : PO × PM} {I : Nat → Nat → Int} {S : PS} {a0 p1 q1 : Nat} {x1 x2 x3 x4 x5 : Int} (hr1 : S.1 a0 2 = some (0, q1, p1)) (hi2 : 0 ≤ x4 ∧ x4 < (q1 : Nat)) (hi3 : 0 ≤ x5 ∧ x5 < (q1 : Nat)) (kt : I p1 x5.toNat ≤ I p1 x4.toNat → Ev d mX1_isLess (50, [some (vR (some (12, 0, a0))), some (vI x1), some (vI x2), some (vI x3), some (vI x4), some (vI x5)], [], (I, S)) r) (kf : I p1 x4.toNat < I p1 x5.toNat → Ev d mX1_isLess (46, [some (vR (some (12, 0, a0))), some (vI x1), some (vI x2), some (vI x3), some (vI x4), some (vI x5)], [], (I, S)) r) : Ev d mX1_isLess (29, [some (vR (some (12, 0, a0))), some (vI x1), some (vI x2), some (vI x3), some (vI x4), some (vI x5)], [], (I, S)) r :=
  s_aload_n rfl rfl rfl <|
  s_getR rfl rfl rfl hr1 <|
  s_iload rfl rfl rfl <|
  s_iald rfl rfl hi2 <|
  s_aload_n rfl rfl rfl <|
  s_getR rfl rfl rfl hr1 <|
  s_iload rfl rfl rfl <|
  s_iald rfl rfl hi3 <|
  s_icmp_ge 50 rfl rfl kt kf
theorem b_X1_isLess_46 {d : Nat} {r : PO × PM} {I : Nat → Nat → Int} {S : PS} {a0 : Nat} {x1 x2 x3 x4 x5 : Int} (k : Ev d mX1_isLess (51, [some (vR (some (12, 0, a0))), some (vI x1), some (vI x2), some (vI x3), some (vI x4), some (vI x5)], [vI 1], (I, S)) r) : Ev d mX1_isLess (46, [some (vR (some (12, 0, a0))), some (vI x1), some (vI x2), some (vI x3), some (vI x4), some (vI x5)], [], (I, S)) r :=
  s_iconst rfl rfl <|
  s_goto 51 rfl rfl k
theorem b_X1_isLess_50 {d : Nat} {r : PO × PM} {I : Nat → Nat → Int} {S : PS} {a0 : Nat} {x1 x2 x3 x4 x5 : Int} (k : Ev d mX1_isLess (51, [some (vR (some (12, 0, a0))), some (vI x1), some (vI x2), some (vI x3), some (vI x4), some (vI x5)], [vI 0], (I, S)) r) : Ev d mX1_isLess (50, [some (vR (some (12, 0, a0))), some (vI x1), some (vI x2), some (vI x3), some (vI x4), some (vI x5)], [], (I, S)) r :=
  s_iconst rfl rfl <|
  k
theorem b_X1_isLess_51 {d : Nat} {I : Nat → Nat → Int} {S : PS} {a0 : Nat} {x1 x2 x3 x4 x5 xs0 : Int} (hb1 : xs0 = 0 ∨ xs0 = 1) : Ev d mX1_isLess (51, [some (vR (some (12, 0, a0))), some (vI x1), some (vI x2), some (vI x3), some (vI x4), some (vI x5)], [vI xs0], (I, S)) (.inl (some (vI xs0)), (I, S)) :=
  s_retz rfl rfl hb1
theorem b_X1_isLess_52 {d : Nat} {r : PO × PM} {I : Nat → Nat → Int} {S : PS} {a0 : Nat} {x1 x2 x3 x4 x5 : Int} (ho1 : -2147483648 ≤ x4 + x2 ∧ x4 + x2 ≤ 2147483647) (kt : x4 + x2 < x3 → Ev d mX1_isLess (70, [some (vR (some (12, 0, a0))), some (vI x1), some (vI x2), some (vI x3), some (vI (x4 + x2)), some (vI x5)], [], (I, S)) r) (kf : x3 ≤ x4 + x2 → Ev d mX1_isLess (64, [some (vR (some (12, 0, a0))), some (vI x1), some (vI x2), some (vI x3), some (vI (x4 + x2)), some (vI x5)], [], (I, S)) r) : Ev d mX1_isLess (52, [some (vR (some (12, 0, a0))), some (vI x1), some (vI x2), some (vI x3), some (vI x4), some (vI x5)], [], (I, S)) r :=
  s_iload rfl rfl rfl <|
  s_iload_n rfl rfl rfl <|
  s_iaddp rfl ho1 <|
  s_istore [some (vR (some (12, 0, a0))), some (vI x1), some (vI x2), some (vI x3), some (vI (x4 + x2)), some (vI x5)] rfl rfl <|
  s_iload rfl rfl rfl <|
  s_iload_n rfl rfl rfl <|
  s_icmp_lt 70 rfl rfl kt kf
theorem b_X1_isLess_64 {d : Nat} {r : PO × PM} {I : Nat → Nat → Int} {S : PS} {a0 : Nat} {x1 x2 x3 x4 x5 : Int} (ho1 : -2147483648 ≤ x4 - x3 ∧ x4 - x3 ≤ 2147483647) (k : Ev d mX1_isLess (70, [some (vR (some (12, 0, a0))), some (vI x1), some (vI x2), some (vI x3), some (vI (x4 - x3)), some (vI x5)], [], (I, S)) r) : Ev d mX1_isLess (64, [some (vR (some (12, 0, a0))), some (vI x1), some (vI x2), some (vI x3), some (vI x4), some (vI x5)], [], (I, S)) r :=
  s_iload rfl rfl rfl <|
  s_iload_n rfl rfl rfl <|
  s_isubp rfl ho1 <|
  s_istore [some (vR (some (12, 0, a0))), some (vI x1), some (vI x2), some (vI x3), some (vI (x4 - x3)), some (vI x5)] rfl rfl <|
  k
theorem b_X1_isLess_70 {d : Nat} {r : PO × PM} {I : Nat → Nat → Int} {S : PS} {a0 : Nat} {x1 x2 x3 x4 x5 : Int} (ho1 : -2147483648 ≤ x5 + 1 ∧ x5 + 1 ≤ 2147483647) (k : Ev d mX1_isLess (6, [some (vR (some (12, 0, a0))), some (vI x1), some (vI x2), some (vI x3), some (vI x4), some (vI (x5 + 1))], [], (I, S)) r) : Ev d mX1_isLess (70, [some (vR (some (12, 0, a0))), some (vI x1), some (vI x2), some (vI x3), some (vI x4), some (vI x5)], [], (I, S)) r :=
  s_iincp [some (vR (some (12, 0, a0))), some (vI x1), some (vI x2), some (vI x3), some (vI x4), some (vI (x5 + 1))] rfl rfl ho1 rfl <|
  s_goto 6 rfl rfl k
theorem b_X1_isLess_76 {d : Nat} {I : Nat → Nat → Int} {S : PS} {a0 : Nat} {x1 x2 x3 x4 x5 : Int} : Ev d mX1_isLess (76, [some (vR (some (12, 0, a0))), some (vI x1), some (vI x2), some (vI x3), some (vI x4), some (vI x5)], [], (I, S)) (.inl (some (vI 0)), (I, S)) :=
  s_iconst rfl rfl <|
  s_ret rfl rfl
theorem b_X1_digitsOf_0 {d : Nat} {r : PO × PM} {I : Nat → Nat → Int} {S : PS} {a0 : Nat} {x1 : Int} (k : Ev d mX1_digitsOf (4, [some (vR (some (12, 0, a0))), some (vI x1), some (vI 0), some (vI 0)], [], (I, S)) r) : Ev d mX1_digitsOf (0, [some (vR (some (12, 0, a0))), some (vI x1), none, none], [], (I, S)) r :=
  s_iconst rfl rfl <|
  s_istore_n [some (vR (some (12, 0, a0))), some (vI x1), some (vI 0), none] rfl rfl <|
  s_iconst rfl rfl <|
  s_istore_n [some (vR (some (12, 0, a0))), some (vI x1), some (vI 0), some (vI 0)] rfl rfl <|
  k
theorem b_X1_digitsOf_4 {d : Nat} {r : PO × PM} {I : Nat → Nat → Int} {S : PS} {a0 : Nat} {x1 x2 x3 : Int} (kt : x1 ≤ x3 → Ev d mX1_digitsOf (27, [some (vR (some (12, 0, a0))), some (vI x1), some (vI x2), some (vI x3)], [], (I, S)) r) (kf : x3 < x1 → Ev d mX1_digitsOf (9, [some (vR (some (12, 0, a0))), some (vI x1), some (vI x2), some (vI x3)], [], (I, S)) r) : Ev d mX1_digitsOf (4, [some (vR (some (12, 0, a0))), some (vI x1), some (vI x2), some (vI x3)], [], (I, S)) r :=
  s_iload_n rfl rfl rfl <|
  s_iload_n rfl rfl rfl <|
  s_icmp_ge 27 rfl rfl kt kf
theorem b_X1_digitsOf_9 {d : Nat} {r : PO × PM} {I : Nat → Nat → Int} {S : PS} {a0 p2 q2 : Nat} {x1 x2 x3 : Int} (ho1 : -2147483648 ≤ x2 * 10 ∧ x2 * 10 ≤ 2147483647) (hr2 : S.1 a0 2 = some (0, q2, p2)) (hi3 : 0 ≤ x3 ∧ x3 < (q2 : Nat)) (ho4 : -2147483648 ≤ (x2 * 10) + (I p2 x3.toNat) ∧ (x2 * 10) + (I p2 x3.toNat) ≤ 2147483647) (ho5 : -2147483648 ≤ x3 + 1 ∧ x3 + 1 ≤ 2147483647) (k : Ev d mX1_digitsOf (4, [some (vR (some (12, 0, a0))), some (vI x1), some (vI ((x2 * 10) + (I p2 x3.toNat))), some (vI (x3 + 1))], [], (I, S)) r) : Ev d mX1_digitsOf (9, [some (vR (some (12, 0, a0))), some (vI x1), some (vI x2), some (vI x3)], [], (I, S)) r :=
  s_iload_n rfl rfl rfl <|
  s_bipush rfl rfl <|
  s_imulp rfl ho1 <|
  s_aload_n rfl rfl rfl <|
  s_getR rfl rfl rfl hr2 <|
  s_iload_n rfl rfl rfl <|
  s_iald rfl rfl hi3 <|
  s_iaddp rfl ho4 <|
  s_istore_n [some (vR (some (12, 0, a0))), some (vI x1), some (vI ((x2 * 10) + (I p2 x3.toNat))), some (vI x3)] rfl rfl <|
  s_iincp [some (vR (some (12, 0, a0))), some (vI x1), some (vI ((x2 * 10) + (I p2 x3.toNat))), some (vI (x3 + 1))] rfl rfl ho5 rfl <|
  s_goto 4 rfl rfl k
theorem b_X1_digitsOf_27 {d : Nat} {I : Nat → Nat → Int} {S : PS} {a0 : Nat} {x1 x2 x3 : Int} : Ev d mX1_digitsOf (27, [some (vR (some (12, 0, a0))), some (vI x1), some (vI x2), some (vI x3)], [], (I, S)) (.inl (some (vI x2)), (I, S)) :=
  s_iload_n rfl rfl rfl <|
  s_ret rfl rfl
theorem b_X1_takeDigits_0 {d : Nat} {r : PO × PM} {I : Nat → Nat → Int} {S : PS} {a0 : Nat} {x1 x2 : Int} (ho1 : -2147483648 ≤ x2 - 1 ∧ x2 - 1 ≤ 2147483647) (k : Ev d mX1_takeDigits (7, [some (vR (some (12, 0, a0))), some (vI x1), some (vI x2), some (vI x1), some (vI (x2 - 1))], [], (I, S)) r) : Ev d mX1_takeDigits (0, [some (vR (some (12, 0, a0))), some (vI x1), some (vI x2), none, none], [], (I, S)) r :=
  s_iload_n rfl rfl rfl <|
  s_istore_n [some (vR (some (12, 0, a0))), some (vI x1), some (vI x2), some (vI x1), none] rfl rfl <|
  s_iload_n rfl rfl rfl <|
  s_iconst rfl rfl <|
  s_isubp rfl ho1 <|
  s_istore [some (vR (some (12, 0, a0))), some (vI x1), some (vI x2), some (vI x1), some (vI (x2 - 1))] rfl rfl <|
  k
theorem b_X1_takeDigits_7 {d : Nat} {r : PO × PM} {I : Nat → Nat → Int} {S : PS} {a0 : Nat} {x1 x2 x3 x4 : Int} (kt : x4 < 0 → Ev d mX1_takeDigits (34, [some (vR (some (12, 0, a0))), some (vI x1), some (vI x2), some (vI x3), some (vI x4)], [], (I, S)) r) (kf : 0 ≤ x4 → Ev d mX1_takeDigits (12, [some (vR (some (12, 0, a0))), some (vI x1), some (vI x2), some (vI x3), some (vI x4)], [], (I, S)) r) : Ev d mX1_takeDigits (7, [some (vR (some (12, 0, a0))), some (vI x1), some (vI x2), some (vI x3), some (vI x4)], [], (I, S)) r :=
  s_iload rfl rfl rfl <|
  s_if_lt 34 rfl rfl kt kf
theorem b_X1_takeDigits_12 {d : Nat} {r : PO × PM} {I : Nat → Nat → Int} {S : PS} {a0 p1 q1 : Nat} {x1 x2 x3 x4 : Int} (hr1 : S.1 a0 2 = some (0, q1, p1)) (hd2 : (0 ≤ x3 ∧ x3 ≤ 2147483647) ∧ 0 < (10 : Int) ∧ (10 : Int) ≤ 2147483647) (hi3 : 0 ≤ x4 ∧ x4 < (q1 : Nat)) (hd4 : (0 ≤ x3 ∧ x3 ≤ 2147483647) ∧ 0 < (10 : Int) ∧ (10 : Int) ≤ 2147483647) (ho5 : -2147483648 ≤ x4 - 1 ∧ x4 - 1 ≤ 2147483647) (k : Ev d mX1_takeDigits (7, [some (vR (some (12, 0, a0))), some (vI x1), some (vI x2), some (vI (x3 / 10)), some (vI (x4 - 1))], [], ((up2 I p1 (x4.toNat) (x3 % 10)), S)) r) : Ev d mX1_takeDigits (12, [some (vR (some (12, 0, a0))), some (vI x1), some (vI x2), some (vI x3), some (vI x4)], [], (I, S)) r :=
  s_aload_n rfl rfl rfl <|
  s_getR rfl rfl rfl hr1 <|
  s_iload rfl rfl rfl <|
  s_iload_n rfl rfl rfl <|
  s_bipush rfl rfl <|
  s_iremp rfl hd2 <|
  s_iast rfl hi3 <|
  s_iload_n rfl rfl rfl <|
  s_bipush rfl rfl <|
  s_idivp rfl hd4 <|
  s_istore_n [some (vR (some (12, 0, a0))), some (vI x1), some (vI x2), some (vI (x3 / 10)), some (vI x4)] rfl rfl <|
  s_iincpn [some (vR (some (12, 0, a0))), some (vI x1), some (vI x2), some (vI (x3 / 10)), some (vI (x4 - 1))] rfl rfl ho5 rfl <|
  s_goto 7 rfl rfl k
theorem b_X1_takeDigits_34 {d : Nat} {I : Nat → Nat → Int} {S : PS} {a0 : Nat} {x1 x2 x3 x4 : Int} : Ev d mX1_takeDigits (34, [some (vR (some (12, 0, a0))), some (vI x1), some (vI x2), some (vI x3), some (vI x4)], [], (I, S)) (.inl none, (I, S)) :=
  s_vret rfl rfl
theorem b_X2_init_0 {d : Nat} {h : PM} {a0 : Nat} : Ev d mX2_init (0, [some (vR (some (13, 0, a0)))], [], h) (.inl none, m_sr (m_new h 0 4 4) a0 0 (some (0, 4, (m_sz h)))) :=
  s_aload_n rfl rfl rfl <|
  s_obj rfl rfl rfl <|
  s_aload_n rfl rfl rfl <|
  s_iconst rfl rfl <|
  s_newa (n := 4) rfl (Or.inl ⟨rfl, rfl⟩) (by decide) <|
  s_putR rfl rfl rfl <|
  s_vret rfl rfl
theorem b_X2_clear_0 {d : Nat} {r : PO × PM} {I : Nat → Nat → Int} {S : PS} {a0 p1 q1 : Nat} {I1 : Nat → Nat → Int} {S1 : PS} (hr1 : S.1 a0 0 = some (0, q1, p1)) (c : Ca d mJ7_fill_53178 [vR (some (0, q1, p1)), vI 0] (I, S) (.inl none) (I1, S1)) (k : Ev (d + 1) mX2_clear (8, [some (vR (some (13, 0, a0)))], [], (I1, S1)) r) : Ev (d + 1) mX2_clear (0, [some (vR (some (13, 0, a0)))], [], (I, S)) r :=
  s_aload_n rfl rfl rfl <|
  s_getR rfl rfl rfl hr1 <|
  s_iconst rfl rfl <|
  s_csV rfl rfl rfl rfl rfl rfl c k
theorem b_X2_clear_8 {d : Nat} {I : Nat → Nat → Int} {S : PS} {a0 : Nat} : Ev d mX2_clear (8, [some (vR (some (13, 0, a0)))], [], (I, S)) (.inl none, (I, S)) :=
  s_vret rfl rfl
theorem b_X2_copyFrom_0 {d : Nat} {I : Nat → Nat → Int} {S : PS} {a0 a1 p1 q1 p2 q2 : Nat} (hr1 : S.1 a1 0 = some (0, q1, p1)) (hr2 : S.1 a0 0 = some (0, q2, p2)) (hc3 : (0 : Int) + 4 ≤ (q1 : Nat)) (hc4 : (0 : Int) + 4 ≤ (q2 : Nat)) : Ev d mX2_copyFrom (0, [some (vR (some (13, 0, a0))), some (vR (some (13, 0, a1)))], [], (I, S)) (.inl none, ((cpyI I p1 0 p2 0 4), S)) :=
  s_aload_n rfl rfl rfl <|
  s_getR rfl rfl rfl hr1 <|
  s_iconst rfl rfl <|
  s_aload_n rfl rfl rfl <|
  s_getR rfl rfl rfl hr2 <|
  s_iconst rfl rfl <|
  s_iconst rfl rfl <|
  s_copy rfl rfl (by decide) (by decide) (by decide) hc3 hc4 rfl <|
  s_vret rfl rfl
theorem b_X2_colourAt_0 {d : Nat} {r : PO × PM} {I : Nat → Nat → Int} {S : PS} {a0 : Nat} {x1 : Int} (k : Ev d mX2_colourAt (2, [some (vR (some (13, 0, a0))), some (vI x1), some (vI 0)], [], (I, S)) r) : Ev d mX2_colourAt (0, [some (vR (some (13, 0, a0))), some (vI x1), none], [], (I, S)) r :=
  s_iconst rfl rfl <|
  s_istore_n [some (vR (some (13, 0, a0))), some (vI x1), some (vI 0)] rfl rfl <|
  k
theorem b_X2_colourAt_2 {d : Nat} {r : PO × PM} {I : Nat → Nat → Int} {S : PS} {a0 : Nat} {x1 x2 : Int} (kt : 4 ≤ x2 → Ev d mX2_colourAt (28, [some (vR (some (13, 0, a0))), some (vI x1), some (vI x2)], [], (I, S)) r) (kf : x2 < 4 → Ev d mX2_colourAt (7, [some (vR (some (13, 0, a0))), some (vI x1), some (vI x2)], [], (I, S)) r) : Ev d mX2_colourAt (2, [some (vR (some (13, 0, a0))), some (vI x1), some (vI x2)], [], (I, S)) r :=
  s_iload_n rfl rfl rfl <|
  s_iconst rfl rfl <|
  s_icmp_ge 28 rfl rfl kt kf
theorem b_X2_colourAt_7 {d : Nat} {r : PO × PM} {I : Nat → Nat → Int} {S : PS} {a0 p1 q1 : Nat} {x1 x2 : Int} (hr1 : S.1 a0 0 = some (0, q1, p1)) (hi2 : 0 ≤ x2 ∧ x2 < (q1 : Nat)) (kt : p_and (p_shr (I p1 x2.toNat) x1) 1 = 0 → Ev d mX2_colourAt (22, [some (vR (some (13, 0, a0))), some (vI x1), some (vI x2)], [], (I, S)) r) (kf : p_and (p_shr (I p1 x2.toNat) x1) 1 ≠ 0 → Ev d mX2_colourAt (20, [some (vR (some (13, 0, a0))), some (vI x1), some (vI x2)], [], (I, S)) r) : Ev d mX2_colourAt (7, [some (vR (some (13, 0, a0))), some (vI x1), some (vI x2)], [], (I, S)) r :=
  s_aload_n rfl rfl rfl <|
  s_getR rfl rfl rfl hr1 <|
  s_iload_n rfl rfl rfl <|
  s_iald rfl rfl hi2 <|
  s_iload_n rfl rfl rfl <|
  s_ishr rfl <|
  s_iconst rfl rfl <|
  s_iand rfl <|
  s_if_eq 22 rfl rfl kt kf
theorem b_X2_colourAt_20 {d : Nat} {I : Nat → Nat → Int} {S : PS} {a0 : Nat} {x1 x2 : Int} : Ev d mX2_colourAt (20, [some (vR (some (13, 0, a0))), some (vI x1), some (vI x2)], [], (I, S)) (.inl (some (vI x2)), (I, S)) :=
  s_iload_n rfl rfl rfl <|
  s_ret rfl rfl
theorem b_X2_colourAt_22 {d : Nat} {r : PO × PM} {I : Nat → Nat → Int} {S : PS} {a0 : Nat} {x1 x2 : Int} (ho1 : -2147483648 ≤ x2 + 1 ∧ x2 + 1 ≤ 2147483647) (k : Ev d mX2_colourAt (2, [some (vR (some (13, 0, a0))), some (vI x1), some (vI (x2 + 1))], [], (I, S)) r) : Ev d mX2_colourAt (22, [some (vR (some (13, 0, a0))), some (vI x1), some (vI x2)], [], (I, S)) r :=
  s_iincp [some (vR (some (13, 0, a0))), some (vI x1), some (vI (x2 + 1))] rfl rfl ho1 rfl <|
  s_goto 2 rfl rfl k
theorem b_X2_colourAt_28 {d : Nat} {I : Nat → Nat → Int} {S : PS} {a0 : Nat} {x1 x2 : Int} : Ev d mX2_colourAt (28, [some (vR (some (13, 0, a0))), some (vI x1), some (vI x2)], [], (I, S)) (.inl (some (vI (-1))), (I, S)) :=
  s_iconst rfl rfl <|
  s_ret rfl rfl
theorem b_X2_painted_0 {d : Nat} {I : Nat → Nat → Int} {S : PS} {a0 p1 q1 : Nat} (hr1 : S.1 a0 0 = some (0, q1, p1)) (hi2 : 0 < q1) (hi3 : 1 < q1) (hi4 : 2 < q1) (hi5 : 3 < q1) : Ev d mX2_painted (0, [some (vR (some (13, 0, a0)))], [], (I, S)) (.inl (some (vI (p_or (p_or (p_or (I p1 0) (I p1 1)) (I p1 2)) (I p1 3)))), (I, S)) :=
  s_aload_n rfl rfl rfl <|
  s_getR rfl rfl rfl hr1 <|
  s_iconst rfl rfl <|
  s_iald rfl rfl (p_lit (k := 0) hi2) <|
  s_aload_n rfl rfl rfl <|
  s_getR rfl rfl rfl hr1 <|
  s_iconst rfl rfl <|
  s_iald rfl rfl (p_lit (k := 1) hi3) <|
  s_ior rfl <|
  s_aload_n rfl rfl rfl <|
  s_getR rfl rfl rfl hr1 <|
  s_iconst rfl rfl <|
  s_iald rfl rfl (p_lit (k := 2) hi4) <|
  s_ior rfl <|
  s_aload_n rfl rfl rfl <|
  s_getR rfl rfl rfl hr1 <|
  s_iconst rfl rfl <|
  s_iald rfl rfl (p_lit (k := 3) hi5) <|
  s_ior rfl <|
  s_ret rfl rfl
theorem b_X2_isPainted_0 {d : Nat} {r : PO × PM} {I : Nat → Nat → Int} {S : PS} {a0 : Nat} {x1 z : Int} {I1 : Nat → Nat → Int} {S1 : PS} (c : Ca d mX2_painted [vR (some (13, 0, a0))] (I, S) (.inl (some (vI z))) (I1, S1)) (k : Ev (d + 1) mX2_isPainted (4, [some (vR (some (13, 0, a0))), some (vI x1)], [vI z], (I1, S1)) r) : Ev (d + 1) mX2_isPainted (0, [some (vR (some (13, 0, a0))), some (vI x1)], [], (I, S)) r :=
  s_aload_n rfl rfl rfl <|
  s_cvI rfl rfl rfl rfl rfl c k
theorem b_X2_isPainted_4 {d : Nat} {r : PO × PM} {I : Nat → Nat → Int} {S : PS} {a0 : Nat} {x1 xs0 : Int} (kt : p_and (p_shr xs0 x1) 1 = 0 → Ev d mX2_isPainted (15, [some (vR (some (13, 0, a0))), some (vI x1)], [], (I, S)) r) (kf : p_and (p_shr xs0 x1) 1 ≠ 0 → Ev d mX2_isPainted (11, [some (vR (some (13, 0, a0))), some (vI x1)], [], (I, S)) r) : Ev d mX2_isPainted (4, [some (vR (some (13, 0, a0))), some (vI x1)], [vI xs0], (I, S)) r :=
  s_iload_n rfl rfl rfl <|
  s_ishr rfl <|
  s_iconst rfl rfl <|
  s_iand rfl <|
  s_if_eq 15 rfl rfl kt kf
theorem b_X2_isPainted_11 {d : Nat} {r : PO × PM} {I : Nat → Nat → Int} {S : PS} {a0 : Nat} {x1 : Int} (k : Ev d mX2_isPainted (16, [some (vR (some (13, 0, a0))), some (vI x1)], [vI 1], (I, S)) r) : Ev d mX2_isPainted (11, [some (vR (some (13, 0, a0))), some (vI x1)], [], (I, S)) r :=
  s_iconst rfl rfl <|
  s_goto 16 rfl rfl k
theorem b_X2_isPainted_15 {d : Nat} {r : PO × PM} {I : Nat → Nat → Int} {S : PS} {a0 : Nat} {x1 : Int} (k : Ev d mX2_isPainted (16, [some (vR (some (13, 0, a0))), some (vI x1)], [vI 0], (I, S)) r) : Ev d mX2_isPainted (15, [some (vR (some (13, 0, a0))), some (vI x1)], [], (I, S)) r :=
  s_iconst rfl rfl <|
  k
theorem b_X2_isPainted_16 {d : Nat} {I : Nat → Nat → Int} {S : PS} {a0 : Nat} {x1 xs0 : Int} (hb1 : xs0 = 0 ∨ xs0 = 1) : Ev d mX2_isPainted (16, [some (vR (some (13, 0, a0))), some (vI x1)], [vI xs0], (I, S)) (.inl (some (vI xs0)), (I, S)) :=
  s_retz rfl rfl hb1
theorem b_X2_paintedCount_0 {d : Nat} {r : PO × PM} {I : Nat → Nat → Int} {S : PS} {a0 : Nat} {I1 : Nat → Nat → Int} {S1 : PS} {z : Int} (c : Ca d mX2_painted [vR (some (13, 0, a0))] (I, S) (.inl (some (vI z))) (I1, S1)) (k : Ev (d + 1) mX2_paintedCount (4, [some (vR (some (13, 0, a0)))], [vI z], (I1, S1)) r) : Ev (d + 1) mX2_paintedCount (0, [some (vR (some (13, 0, a0)))], [], (I, S)) r :=
  s_aload_n rfl rfl rfl <|
  s_cvI rfl rfl rfl rfl rfl c k
theorem b_X2_paintedCount_4 {d : Nat} {r : PO × PM} {I : Nat → Nat → Int} {S : PS} {a0 : Nat} {xs0 z : Int} {I1 : Nat → Nat → Int} {S1 : PS} (c : Ca d mJ6_bitCount_0f7a4 [vI xs0] (I, S) (.inl (some (vI z))) (I1, S1)) (k : Ev (d + 1) mX2_paintedCount (7, [some (vR (some (13, 0, a0)))], [vI z], (I1, S1)) r) : Ev (d + 1) mX2_paintedCount (4, [some (vR (some (13, 0, a0)))], [vI xs0], (I, S)) r :=
  s_csI rfl rfl rfl rfl rfl rfl c k
theorem b_X2_paintedCount_7 {d : Nat} {I : Nat → Nat → Int} {S : PS} {a0 : Nat} {xs0 : Int} : Ev d mX2_paintedCount (7, [some (vR (some (13, 0, a0)))], [vI xs0], (I, S)) (.inl (some (vI xs0)), (I, S)) :=
  s_ret rfl rfl
theorem b_X2_unlikeColours_0 {d : Nat} {r : PO × PM} {I : Nat → Nat → Int} {S : PS} {a0 : Nat} (k : Ev d mX2_unlikeColours (4, [some (vR (some (13, 0, a0))), some (vI 0), some (vI 0)], [], (I, S)) r) : Ev d mX2_unlikeColours (0, [some (vR (some (13, 0, a0))), none, none], [], (I, S)) r :=
  s_iconst rfl rfl <|
  s_istore_n [some (vR (some (13, 0, a0))), some (vI 0), none] rfl rfl <|
  s_iconst rfl rfl <|
  s_istore_n [some (vR (some (13, 0, a0))), some (vI 0), some (vI 0)] rfl rfl <|
  k
theorem b_X2_unlikeColours_4 {d : Nat} {r : PO × PM} {I : Nat → Nat → Int} {S : PS} {a0 : Nat} {x1 x2 : Int} (kt : 4 ≤ x2 → Ev d mX2_unlikeColours (27, [some (vR (some (13, 0, a0))), some (vI x1), some (vI x2)], [], (I, S)) r) (kf : x2 < 4 → Ev d mX2_unlikeColours (9, [some (vR (some (13, 0, a0))), some (vI x1), some (vI x2)], [], (I, S)) r) : Ev d mX2_unlikeColours (4, [some (vR (some (13, 0, a0))), some (vI x1), some (vI x2)], [], (I, S)) r :=
  s_iload_n rfl rfl rfl <|
  s_iconst rfl rfl <|
  s_icmp_ge 27 rfl rfl kt kf
theorem b_X2_unlikeColours_9 {d : Nat} {r : PO × PM} {I : Nat → Nat → Int} {S : PS} {a0 p1 q1 : Nat} {x1 x2 : Int} (hr1 : S.1 a0 0 = some (0, q1, p1)) (hi2 : 0 ≤ x2 ∧ x2 < (q1 : Nat)) (kt : I p1 x2.toNat = 0 → Ev d mX2_unlikeColours (21, [some (vR (some (13, 0, a0))), some (vI x1), some (vI x2)], [], (I, S)) r) (kf : I p1 x2.toNat ≠ 0 → Ev d mX2_unlikeColours (18, [some (vR (some (13, 0, a0))), some (vI x1), some (vI x2)], [], (I, S)) r) : Ev d mX2_unlikeColours (9, [some (vR (some (13, 0, a0))), some (vI x1), some (vI x2)], [], (I, S)) r :=
  s_aload_n rfl rfl rfl <|
  s_getR rfl rfl rfl hr1 <|
  s_iload_n rfl rfl rfl <|
  s_iald rfl rfl hi2 <|
  s_if_eq 21 rfl rfl kt kf
theorem b_X2_unlikeColours_18 {d : Nat} {r : PO × PM} {I : Nat → Nat → Int} {S : PS} {a0 : Nat} {x1 x2 : Int} (ho1 : -2147483648 ≤ x1 + 1 ∧ x1 + 1 ≤ 2147483647) (k : Ev d mX2_unlikeColours (21, [some (vR (some (13, 0, a0))), some (vI (x1 + 1)), some (vI x2)], [], (I, S)) r) : Ev d mX2_unlikeColours (18, [some (vR (some (13, 0, a0))), some (vI x1), some (vI x2)], [], (I, S)) r :=
  s_iincp [some (vR (some (13, 0, a0))), some (vI (x1 + 1)), some (vI x2)] rfl rfl ho1 rfl <|
  k
theorem b_X2_unlikeColours_21 {d : Nat} {r : PO × PM} {I : Nat → Nat → Int} {S : PS} {a0 : Nat} {x1 x2 : Int} (ho1 : -2147483648 ≤ x2 + 1 ∧ x2 + 1 ≤ 2147483647) (k : Ev d mX2_unlikeColours (4, [some (vR (some (13, 0, a0))), some (vI x1), some (vI (x2 + 1))], [], (I, S)) r) : Ev d mX2_unlikeColours (21, [some (vR (some (13, 0, a0))), some (vI x1), some (vI x2)], [], (I, S)) r :=
  s_iincp [some (vR (some (13, 0, a0))), some (vI x1), some (vI (x2 + 1))] rfl rfl ho1 rfl <|
  s_goto 4 rfl rfl k
theorem b_X2_unlikeColours_27 {d : Nat} {I : Nat → Nat → Int} {S : PS} {a0 : Nat} {x1 x2 : Int} : Ev d mX2_unlikeColours (27, [some (vR (some (13, 0, a0))), some (vI x1), some (vI x2)], [], (I, S)) (.inl (some (vI x1)), (I, S)) :=
  s_iload_n rfl rfl rfl <|
  s_ret rfl rfl
theorem b_X2_freeColours_0 {d : Nat} {r : PO × PM} {I : Nat → Nat → Int} {S : PS} {a0 a1 : Nat} {x2 : Int} (k : Ev d mX2_freeColours (5, [some (vR (some (13, 0, a0))), some (vR (some (11, 0, a1))), some (vI x2), some (vI 0), some (vI 0)], [], (I, S)) r) : Ev d mX2_freeColours (0, [some (vR (some (13, 0, a0))), some (vR (some (11, 0, a1))), some (vI x2), none, none], [], (I, S)) r :=
  s_iconst rfl rfl <|
  s_istore_n [some (vR (some (13, 0, a0))), some (vR (some (11, 0, a1))), some (vI x2), some (vI 0), none] rfl rfl <|
  s_iconst rfl rfl <|
  s_istore [some (vR (some (13, 0, a0))), some (vR (some (11, 0, a1))), some (vI x2), some (vI 0), some (vI 0)] rfl rfl <|
  k
theorem b_X2_freeColours_5 {d : Nat} {r : PO × PM} {I : Nat → Nat → Int} {S : PS} {a0 a1 : Nat} {x2 x3 x4 : Int} (kt : 4 ≤ x4 → Ev d mX2_freeColours (41, [some (vR (some (13, 0, a0))), some (vR (some (11, 0, a1))), some (vI x2), some (vI x3), some (vI x4)], [], (I, S)) r) (kf : x4 < 4 → Ev d mX2_freeColours (11, [some (vR (some (13, 0, a0))), some (vR (some (11, 0, a1))), some (vI x2), some (vI x3), some (vI x4)], [], (I, S)) r) : Ev d mX2_freeColours (5, [some (vR (some (13, 0, a0))), some (vR (some (11, 0, a1))), some (vI x2), some (vI x3), some (vI x4)], [], (I, S)) r :=
  s_iload rfl rfl rfl <|
  s_iconst rfl rfl <|
  s_icmp_ge 41 rfl rfl kt kf
theorem b_X2_freeColours_11 {d : Nat} {r : PO × PM} {I : Nat → Nat → Int} {S : PS} {a0 a1 p1 q1 p3 q3 : Nat} {x2 x3 x4 : Int} (hr1 : S.1 a0 0 = some (0, q1, p1)) (hi2 : 0 ≤ x4 ∧ x4 < (q1 : Nat)) (hr3 : S.1 a1 4 = some (0, q3, p3)) (hi4 : 0 ≤ x2 ∧ x2 < (q3 : Nat)) (kt : p_and (I p1 x4.toNat) (I p3 x2.toNat) ≠ 0 → Ev d mX2_freeColours (35, [some (vR (some (13, 0, a0))), some (vR (some (11, 0, a1))), some (vI x2), some (vI x3), some (vI x4)], [], (I, S)) r) (kf : p_and (I p1 x4.toNat) (I p3 x2.toNat) = 0 → Ev d mX2_freeColours (28, [some (vR (some (13, 0, a0))), some (vR (some (11, 0, a1))), some (vI x2), some (vI x3), some (vI x4)], [], (I, S)) r) : Ev d mX2_freeColours (11, [some (vR (some (13, 0, a0))), some (vR (some (11, 0, a1))), some (vI x2), some (vI x3), some (vI x4)], [], (I, S)) r :=
  s_aload_n rfl rfl rfl <|
  s_getR rfl rfl rfl hr1 <|
  s_iload rfl rfl rfl <|
  s_iald rfl rfl hi2 <|
  s_aload_n rfl rfl rfl <|
  s_getR rfl rfl rfl hr3 <|
  s_iload_n rfl rfl rfl <|
  s_iald rfl rfl hi4 <|
  s_iand rfl <|
  s_if_ne 35 rfl rfl kt kf
theorem b_X2_freeColours_28 {d : Nat} {r : PO × PM} {I : Nat → Nat → Int} {S : PS} {a0 a1 : Nat} {x2 x3 x4 : Int} (k : Ev d mX2_freeColours (35, [some (vR (some (13, 0, a0))), some (vR (some (11, 0, a1))), some (vI x2), some (vI (p_or x3 (p_shl 1 x4))), some (vI x4)], [], (I, S)) r) : Ev d mX2_freeColours (28, [some (vR (some (13, 0, a0))), some (vR (some (11, 0, a1))), some (vI x2), some (vI x3), some (vI x4)], [], (I, S)) r :=
  s_iload_n rfl rfl rfl <|
  s_iconst rfl rfl <|
  s_iload rfl rfl rfl <|
  s_ishl rfl <|
  s_ior rfl <|
  s_istore_n [some (vR (some (13, 0, a0))), some (vR (some (11, 0, a1))), some (vI x2), some (vI (p_or x3 (p_shl 1 x4))), some (vI x4)] rfl rfl <|
  k
theorem b_X2_freeColours_35 {d : Nat} {r : PO × PM} {I : Nat → Nat → Int} {S : PS} {a0 a1 : Nat} {x2 x3 x4 : Int} (ho1 : -2147483648 ≤ x4 + 1 ∧ x4 + 1 ≤ 2147483647) (k : Ev d mX2_freeColours (5, [some (vR (some (13, 0, a0))), some (vR (some (11, 0, a1))), some (vI x2), some (vI x3), some (vI (x4 + 1))], [], (I, S)) r) : Ev d mX2_freeColours (35, [some (vR (some (13, 0, a0))), some (vR (some (11, 0, a1))), some (vI x2), some (vI x3), some (vI x4)], [], (I, S)) r :=
  s_iincp [some (vR (some (13, 0, a0))), some (vR (some (11, 0, a1))), some (vI x2), some (vI x3), some (vI (x4 + 1))] rfl rfl ho1 rfl <|
  s_goto 5 rfl rfl k
theorem b_X2_freeColours_41 {d : Nat} {I : Nat → Nat → Int} {S : PS} {a0 a1 : Nat} {x2 x3 x4 : Int} : Ev d mX2_freeColours (41, [some (vR (some (13, 0, a0))), some (vR (some (11, 0, a1))), some (vI x2), some (vI x3), some (vI x4)], [], (I, S)) (.inl (some (vI x3)), (I, S)) :=
  s_iload_n rfl rfl rfl <|
  s_ret rfl rfl
theorem b_X2_mayPaint_0 {d : Nat} {r : PO × PM} {I : Nat → Nat → Int} {S : PS} {a0 a1 : Nat} {x2 x3 z : Int} {I1 : Nat → Nat → Int} {S1 : PS} (c : Ca d mX11_isColour [vI x3] (I, S) (.inl (some (vI z))) (I1, S1)) (k : Ev (d + 1) mX2_mayPaint (4, [some (vR (some (13, 0, a0))), some (vR (some (11, 0, a1))), some (vI x2), some (vI x3)], [vI z], (I1, S1)) r) : Ev (d + 1) mX2_mayPaint (0, [some (vR (some (13, 0, a0))), some (vR (some (11, 0, a1))), some (vI x2), some (vI x3)], [], (I, S)) r :=
  s_iload_n rfl rfl rfl <|
  s_csI rfl rfl rfl rfl rfl rfl c k
theorem b_X2_mayPaint_4 {d : Nat} {r : PO × PM} {I : Nat → Nat → Int} {S : PS} {a0 a1 : Nat} {x2 x3 xs0 : Int} (kt : xs0 = 0 → Ev d mX2_mayPaint (38, [some (vR (some (13, 0, a0))), some (vR (some (11, 0, a1))), some (vI x2), some (vI x3)], [], (I, S)) r) (kf : xs0 ≠ 0 → Ev d mX2_mayPaint (7, [some (vR (some (13, 0, a0))), some (vR (some (11, 0, a1))), some (vI x2), some (vI x3)], [], (I, S)) r) : Ev d mX2_mayPaint (4, [some (vR (some (13, 0, a0))), some (vR (some (11, 0, a1))), some (vI x2), some (vI x3)], [vI xs0], (I, S)) r :=
  s_if_eq 38 rfl rfl kt kf
theorem b_X2_mayPaint_7 {d : Nat} {r : PO × PM} {I : Nat → Nat → Int} {S : PS} {a0 a1 : Nat} {x2 x3 z : Int} {I1 : Nat → Nat → Int} {S1 : PS} (c : Ca d mX2_painted [vR (some (13, 0, a0))] (I, S) (.inl (some (vI z))) (I1, S1)) (k : Ev (d + 1) mX2_mayPaint (11, [some (vR (some (13, 0, a0))), some (vR (some (11, 0, a1))), some (vI x2), some (vI x3)], [vI z], (I1, S1)) r) : Ev (d + 1) mX2_mayPaint (7, [some (vR (some (13, 0, a0))), some (vR (some (11, 0, a1))), some (vI x2), some (vI x3)], [], (I, S)) r :=
  s_aload_n rfl rfl rfl <|
  s_cvI rfl rfl rfl rfl rfl c k
theorem b_X2_mayPaint_11 {d : Nat} {r : PO × PM} {I : Nat → Nat → Int} {S : PS} {a0 a1 : Nat} {x2 x3 xs0 : Int} (kt : p_and (p_shr xs0 x2) 1 ≠ 0 → Ev d mX2_mayPaint (38, [some (vR (some (13, 0, a0))), some (vR (some (11, 0, a1))), some (vI x2), some (vI x3)], [], (I, S)) r) (kf : p_and (p_shr xs0 x2) 1 = 0 → Ev d mX2_mayPaint (18, [some (vR (some (13, 0, a0))), some (vR (some (11, 0, a1))), some (vI x2), some (vI x3)], [], (I, S)) r) : Ev d mX2_mayPaint (11, [some (vR (some (13, 0, a0))), some (vR (some (11, 0, a1))), some (vI x2), some (vI x3)], [vI xs0], (I, S)) r :=
  s_iload_n rfl rfl rfl <|
  s_ishr rfl <|
  s_iconst rfl rfl <|
  s_iand rfl <|
  s_if_ne 38 rfl rfl kt kf
theorem b_X2_mayPaint_18 {d : Nat} {r : PO × PM} {I : Nat → Nat → Int} {S : PS} {a0 a1 p1 q1 p3 q3 : Nat} {x2 x3 : Int} (hr1 : S.1 a0 0 = some (0, q1, p1)) (hi2 : 0 ≤ x3 ∧ x3 < (q1 : Nat)) (hr3 : S.1 a1 4 = some (0, q3, p3)) (hi4 : 0 ≤ x2 ∧ x2 < (q3 : Nat)) (kt : p_and (I p1 x3.toNat) (I p3 x2.toNat) ≠ 0 → Ev d mX2_mayPaint (38, [some (vR (some (13, 0, a0))), some (vR (some (11, 0, a1))), some (vI x2), some (vI x3)], [], (I, S)) r) (kf : p_and (I p1 x3.toNat) (I p3 x2.toNat) = 0 → Ev d mX2_mayPaint (34, [some (vR (some (13, 0, a0))), some (vR (some (11, 0, a1))), some (vI x2), some (vI x3)], [], (I, S)) r) : Ev d mX2_mayPaint (18, [some (vR (some (13, 0, a0))), some (vR (some (11, 0, a1))), some (vI x2), some (vI x3)], [], (I, S)) r :=
  s_aload_n rfl rfl rfl <|
  s_getR rfl rfl rfl hr1 <|
  s_iload_n rfl rfl rfl <|
  s_iald rfl rfl hi2 <|
  s_aload_n rfl rfl rfl <|
  s_getR rfl rfl rfl hr3 <|
  s_iload_n rfl rfl rfl <|
  s_iald rfl rfl hi4 <|
  s_iand rfl <|
  s_if_ne 38 rfl rfl kt kf
theorem b_X2_mayPaint_34 {d : Nat} {r : PO × PM} {I : Nat → Nat → Int} {S : PS} {a0 a1 : Nat} {x2 x3 : Int} (k : Ev d mX2_mayPaint (39, [some (vR (some (13, 0, a0))), some (vR (some (11, 0, a1))), some (vI x2), some (vI x3)], [vI 1], (I, S)) r) : Ev d mX2_mayPaint (34, [some (vR (some (13, 0, a0))), some (vR (some (11, 0, a1))), some (vI x2), some (vI x3)], [], (I, S)) r :=
  s_iconst rfl rfl <|
  s_goto 39 rfl rfl k
theorem b_X2_mayPaint_38 {d : Nat} {r : PO × PM} {I : Nat → Nat → Int} {S : PS} {a0 a1 : Nat} {x2 x3 : Int} (k : Ev d mX2_mayPaint (39, [some (vR (some (13, 0, a0))), some (vR (some (11, 0, a1))), some (vI x2), some (vI x3)], [vI 0], (I, S)) r) : Ev d mX2_mayPaint (38, [some (vR (some (13, 0, a0))), some (vR (some (11, 0, a1))), some (vI x2), some (vI x3)], [], (I, S)) r :=
  s_iconst rfl rfl <|
  k
theorem b_X2_mayPaint_39 {d : Nat} {I : Nat → Nat → Int} {S : PS} {a0 a1 : Nat} {x2 x3 xs0 : Int} (hb1 : xs0 = 0 ∨ xs0 = 1) : Ev d mX2_mayPaint (39, [some (vR (some (13, 0, a0))), some (vR (some (11, 0, a1))), some (vI x2), some (vI x3)], [vI xs0], (I, S)) (.inl (some (vI xs0)), (I, S)) :=
  s_retz rfl rfl hb1
theorem b_X2_put_0 {d : Nat} {I : Nat → Nat → Int} {S : PS} {a0 p1 q1 : Nat} {x1 x2 : Int} (hr1 : S.1 a0 0 = some (0, q1, p1)) (hi2 : 0 ≤ x2 ∧ x2 < (q1 : Nat)) (hi3 : 0 ≤ x2 ∧ x2 < (q1 : Nat)) : Ev d mX2_put (0, [some (vR (some (13, 0, a0))), some (vI x1), some (vI x2)], [], (I, S)) (.inl none, ((up2 I p1 (x2.toNat) (p_or (I p1 x2.toNat) (p_shl 1 x1))), S)) :=
  s_aload_n rfl rfl rfl <|
  s_getR rfl rfl rfl hr1 <|
  s_iload_n rfl rfl rfl <|
  s_dup2 rfl rfl <|
  s_iald rfl rfl hi2 <|
  s_iconst rfl rfl <|
  s_iload_n rfl rfl rfl <|
  s_ishl rfl <|
  s_ior rfl <|
  s_iast rfl hi3 <|
  s_vret rfl rfl
theorem b_X2_take_0 {d : Nat} {I : Nat → Nat → Int} {S : PS} {a0 p1 q1 : Nat} {x1 x2 : Int} (hr1 : S.1 a0 0 = some (0, q1, p1)) (hi2 : 0 ≤ x2 ∧ x2 < (q1 : Nat)) (hi3 : 0 ≤ x2 ∧ x2 < (q1 : Nat)) : Ev d mX2_take (0, [some (vR (some (13, 0, a0))), some (vI x1), some (vI x2)], [], (I, S)) (.inl none, ((up2 I p1 (x2.toNat) (p_and (I p1 x2.toNat) (p_xor (p_shl 1 x1) (-1)))), S)) :=
  s_aload_n rfl rfl rfl <|
  s_getR rfl rfl rfl hr1 <|
  s_iload_n rfl rfl rfl <|
  s_dup2 rfl rfl <|
  s_iald rfl rfl hi2 <|
  s_iconst rfl rfl <|
  s_iload_n rfl rfl rfl <|
  s_ishl rfl <|
  s_iconst rfl rfl <|
  s_ixor rfl <|
  s_iand rfl <|
  s_iast rfl hi3 <|
  s_vret rfl rfl
theorem b_X2_chainOf_0 {d : Nat} {r : PO × PM} {I : Nat → Nat → Int} {S : PS} {a0 a1 : Nat} {x2 x3 z : Int} {I1 : Nat → Nat → Int} {S1 : PS} (c : Ca d mX2_colourAt [vR (some (13, 0, a0)), vI x2] (I, S) (.inl (some (vI z))) (I1, S1)) (k : Ev (d + 1) mX2_chainOf (5, [some (vR (some (13, 0, a0))), some (vR (some (11, 0, a1))), some (vI x2), some (vI x3), none, none, none, none, none, none, none], [vI z], (I1, S1)) r) : Ev (d + 1) mX2_chainOf (0, [some (vR (some (13, 0, a0))), some (vR (some (11, 0, a1))), some (vI x2), some (vI x3), none, none, none, none, none, none, none], [], (I, S)) r :=
  s_aload_n rfl rfl rfl <|
  s_iload_n rfl rfl rfl <|
  s_cvI rfl rfl rfl rfl rfl c k
theorem b_X2_chainOf_5 {d : Nat} {r : PO × PM} {I : Nat → Nat → Int} {S : PS} {a0 a1 : Nat} {x2 x3 xs0 : Int} (kt : xs0 = (-1) → Ev d mX2_chainOf (26, [some (vR (some (13, 0, a0))), some (vR (some (11, 0, a1))), some (vI x2), some (vI x3), some (vI xs0), none, none, none, none, none, none], [], (I, S)) r) (kf : xs0 ≠ (-1) → Ev d mX2_chainOf (13, [some (vR (some (13, 0, a0))), some (vR (some (11, 0, a1))), some (vI x2), some (vI x3), some (vI xs0), none, none, none, none, none, none], [], (I, S)) r) : Ev d mX2_chainOf (5, [some (vR (some (13, 0, a0))), some (vR (some (11, 0, a1))), some (vI x2), some (vI x3), none, none, none, none, none, none, none], [vI xs0], (I, S)) r :=
  s_istore [some (vR (some (13, 0, a0))), some (vR (some (11, 0, a1))), some (vI x2), some (vI x3), some (vI xs0), none, none, none, none, none, none] rfl rfl <|
  s_iload rfl rfl rfl <|
  s_iconst rfl rfl <|
  s_icmp_eq 26 rfl rfl kt kf
theorem b_X2_chainOf_13 {d : Nat} {r : PO × PM} {I : Nat → Nat → Int} {S : PS} {a0 a1 : Nat} {x2 x3 x4 : Int} (kt : x4 = x3 → Ev d mX2_chainOf (26, [some (vR (some (13, 0, a0))), some (vR (some (11, 0, a1))), some (vI x2), some (vI x3), some (vI x4), none, none, none, none, none, none], [], (I, S)) r) (kf : x4 ≠ x3 → Ev d mX2_chainOf (19, [some (vR (some (13, 0, a0))), some (vR (some (11, 0, a1))), some (vI x2), some (vI x3), some (vI x4), none, none, none, none, none, none], [], (I, S)) r) : Ev d mX2_chainOf (13, [some (vR (some (13, 0, a0))), some (vR (some (11, 0, a1))), some (vI x2), some (vI x3), some (vI x4), none, none, none, none, none, none], [], (I, S)) r :=
  s_iload rfl rfl rfl <|
  s_iload_n rfl rfl rfl <|
  s_icmp_eq 26 rfl rfl kt kf
theorem b_X2_chainOf_19 {d : Nat} {r : PO × PM} {I : Nat → Nat → Int} {S : PS} {a0 a1 : Nat} {x2 x3 x4 z : Int} {I1 : Nat → Nat → Int} {S1 : PS} (c : Ca d mX11_isColour [vI x3] (I, S) (.inl (some (vI z))) (I1, S1)) (k : Ev (d + 1) mX2_chainOf (23, [some (vR (some (13, 0, a0))), some (vR (some (11, 0, a1))), some (vI x2), some (vI x3), some (vI x4), none, none, none, none, none, none], [vI z], (I1, S1)) r) : Ev (d + 1) mX2_chainOf (19, [some (vR (some (13, 0, a0))), some (vR (some (11, 0, a1))), some (vI x2), some (vI x3), some (vI x4), none, none, none, none, none, none], [], (I, S)) r :=
  s_iload_n rfl rfl rfl <|
  s_csI rfl rfl rfl rfl rfl rfl c k
theorem b_X2_chainOf_23 {d : Nat} {r : PO × PM} {I : Nat → Nat → Int} {S : PS} {a0 a1 : Nat} {x2 x3 x4 xs0 : Int} (kt : xs0 ≠ 0 → Ev d mX2_chainOf (28, [some (vR (some (13, 0, a0))), some (vR (some (11, 0, a1))), some (vI x2), some (vI x3), some (vI x4), none, none, none, none, none, none], [], (I, S)) r) (kf : xs0 = 0 → Ev d mX2_chainOf (26, [some (vR (some (13, 0, a0))), some (vR (some (11, 0, a1))), some (vI x2), some (vI x3), some (vI x4), none, none, none, none, none, none], [], (I, S)) r) : Ev d mX2_chainOf (23, [some (vR (some (13, 0, a0))), some (vR (some (11, 0, a1))), some (vI x2), some (vI x3), some (vI x4), none, none, none, none, none, none], [vI xs0], (I, S)) r :=
  s_if_ne 28 rfl rfl kt kf
theorem b_X2_chainOf_26 {d : Nat} {I : Nat → Nat → Int} {S : PS} {a0 a1 : Nat} {x2 x3 x4 : Int} : Ev d mX2_chainOf (26, [some (vR (some (13, 0, a0))), some (vR (some (11, 0, a1))), some (vI x2), some (vI x3), some (vI x4), none, none, none, none, none, none], [], (I, S)) (.inl (some (vI 0)), (I, S)) :=
  s_iconst rfl rfl <|
  s_ret rfl rfl
theorem b_X2_chainOf_28 {d : Nat} {r : PO × PM} {I : Nat → Nat → Int} {S : PS} {a0 a1 p1 q1 : Nat} {x2 x3 x4 : Int} (hr1 : S.1 a0 0 = some (0, q1, p1)) (hi2 : 0 ≤ x4 ∧ x4 < (q1 : Nat)) (hi3 : 0 ≤ x3 ∧ x3 < (q1 : Nat)) (k : Ev d mX2_chainOf (56, [some (vR (some (13, 0, a0))), some (vR (some (11, 0, a1))), some (vI x2), some (vI x3), some (vI x4), some (vI (p_or (I p1 x4.toNat) (I p1 x3.toNat))), some (vI (p_shl 1 x2)), some (vI (p_shl 1 x2)), some (vI 0), none, none], [], (I, S)) r) : Ev d mX2_chainOf (28, [some (vR (some (13, 0, a0))), some (vR (some (11, 0, a1))), some (vI x2), some (vI x3), some (vI x4), none, none, none, none, none, none], [], (I, S)) r :=
  s_aload_n rfl rfl rfl <|
  s_getR rfl rfl rfl hr1 <|
  s_iload rfl rfl rfl <|
  s_iald rfl rfl hi2 <|
  s_aload_n rfl rfl rfl <|
  s_getR rfl rfl rfl hr1 <|
  s_iload_n rfl rfl rfl <|
  s_iald rfl rfl hi3 <|
  s_ior rfl <|
  s_istore [some (vR (some (13, 0, a0))), some (vR (some (11, 0, a1))), some (vI x2), some (vI x3), some (vI x4), some (vI (p_or (I p1 x4.toNat) (I p1 x3.toNat))), none, none, none, none, none] rfl rfl <|
  s_iconst rfl rfl <|
  s_iload_n rfl rfl rfl <|
  s_ishl rfl <|
  s_istore [some (vR (some (13, 0, a0))), some (vR (some (11, 0, a1))), some (vI x2), some (vI x3), some (vI x4), some (vI (p_or (I p1 x4.toNat) (I p1 x3.toNat))), some (vI (p_shl 1 x2)), none, none, none, none] rfl rfl <|
  s_iload rfl rfl rfl <|
  s_istore [some (vR (some (13, 0, a0))), some (vR (some (11, 0, a1))), some (vI x2), some (vI x3), some (vI x4), some (vI (p_or (I p1 x4.toNat) (I p1 x3.toNat))), some (vI (p_shl 1 x2)), some (vI (p_shl 1 x2)), none, none, none] rfl rfl <|
  s_iconst rfl rfl <|
  s_istore [some (vR (some (13, 0, a0))), some (vR (some (11, 0, a1))), some (vI x2), some (vI x3), some (vI x4), some (vI (p_or (I p1 x4.toNat) (I p1 x3.toNat))), some (vI (p_shl 1 x2)), some (vI (p_shl 1 x2)), some (vI 0), none, none] rfl rfl <|
  k
theorem b_X2_chainOf_56 {d : Nat} {r : PO × PM} {I : Nat → Nat → Int} {S : PS} {a0 a1 : Nat} {x2 x3 x4 x5 x6 x7 x8 : Int} (kt : I a1 6 ≤ x8 → Ev d mX2_chainOf (138, [some (vR (some (13, 0, a0))), some (vR (some (11, 0, a1))), some (vI x2), some (vI x3), some (vI x4), some (vI x5), some (vI x6), some (vI x7), some (vI x8), none, none], [], (I, S)) r) (kf : x8 < I a1 6 → Ev d mX2_chainOf (65, [some (vR (some (13, 0, a0))), some (vR (some (11, 0, a1))), some (vI x2), some (vI x3), some (vI x4), some (vI x5), some (vI x6), some (vI x7), some (vI x8), none, none], [], (I, S)) r) : Ev d mX2_chainOf (56, [some (vR (some (13, 0, a0))), some (vR (some (11, 0, a1))), some (vI x2), some (vI x3), some (vI x4), some (vI x5), some (vI x6), some (vI x7), some (vI x8), none, none], [], (I, S)) r :=
  s_iload rfl rfl rfl <|
  s_aload_n rfl rfl rfl <|
  s_getI rfl rfl rfl <|
  s_icmp_ge 138 rfl rfl kt kf
theorem b_X2_chainOf_65 {d : Nat} {r : PO × PM} {I : Nat → Nat → Int} {S : PS} {a0 a1 : Nat} {x2 x3 x4 x5 x6 x7 x8 : Int} (kt : x7 = 0 → Ev d mX2_chainOf (138, [some (vR (some (13, 0, a0))), some (vR (some (11, 0, a1))), some (vI x2), some (vI x3), some (vI x4), some (vI x5), some (vI x6), some (vI x7), some (vI x8), none, none], [], (I, S)) r) (kf : x7 ≠ 0 → Ev d mX2_chainOf (70, [some (vR (some (13, 0, a0))), some (vR (some (11, 0, a1))), some (vI x2), some (vI x3), some (vI x4), some (vI x5), some (vI x6), some (vI x7), some (vI x8), none, none], [], (I, S)) r) : Ev d mX2_chainOf (65, [some (vR (some (13, 0, a0))), some (vR (some (11, 0, a1))), some (vI x2), some (vI x3), some (vI x4), some (vI x5), some (vI x6), some (vI x7), some (vI x8), none, none], [], (I, S)) r :=
  s_iload rfl rfl rfl <|
  s_if_eq 138 rfl rfl kt kf
theorem b_X2_chainOf_70 {d : Nat} {r : PO × PM} {I : Nat → Nat → Int} {S : PS} {a0 a1 : Nat} {x2 x3 x4 x5 x6 x7 x8 : Int} (k : Ev d mX2_chainOf (76, [some (vR (some (13, 0, a0))), some (vR (some (11, 0, a1))), some (vI x2), some (vI x3), some (vI x4), some (vI x5), some (vI x6), some (vI x7), some (vI x8), some (vI 0), some (vI 0)], [], (I, S)) r) : Ev d mX2_chainOf (70, [some (vR (some (13, 0, a0))), some (vR (some (11, 0, a1))), some (vI x2), some (vI x3), some (vI x4), some (vI x5), some (vI x6), some (vI x7), some (vI x8), none, none], [], (I, S)) r :=
  s_iconst rfl rfl <|
  s_istore [some (vR (some (13, 0, a0))), some (vR (some (11, 0, a1))), some (vI x2), some (vI x3), some (vI x4), some (vI x5), some (vI x6), some (vI x7), some (vI x8), some (vI 0), none] rfl rfl <|
  s_iconst rfl rfl <|
  s_istore [some (vR (some (13, 0, a0))), some (vR (some (11, 0, a1))), some (vI x2), some (vI x3), some (vI x4), some (vI x5), some (vI x6), some (vI x7), some (vI x8), some (vI 0), some (vI 0)] rfl rfl <|
  k
theorem b_X2_chainOf_76 {d : Nat} {r : PO × PM} {I : Nat → Nat → Int} {S : PS} {a0 a1 : Nat} {x2 x3 x4 x5 x6 x7 x8 x9 x10 : Int} (kt : I a1 6 ≤ x10 → Ev d mX2_chainOf (113, [some (vR (some (13, 0, a0))), some (vR (some (11, 0, a1))), some (vI x2), some (vI x3), some (vI x4), some (vI x5), some (vI x6), some (vI x7), some (vI x8), some (vI x9), some (vI x10)], [], (I, S)) r) (kf : x10 < I a1 6 → Ev d mX2_chainOf (85, [some (vR (some (13, 0, a0))), some (vR (some (11, 0, a1))), some (vI x2), some (vI x3), some (vI x4), some (vI x5), some (vI x6), some (vI x7), some (vI x8), some (vI x9), some (vI x10)], [], (I, S)) r) : Ev d mX2_chainOf (76, [some (vR (some (13, 0, a0))), some (vR (some (11, 0, a1))), some (vI x2), some (vI x3), some (vI x4), some (vI x5), some (vI x6), some (vI x7), some (vI x8), some (vI x9), some (vI x10)], [], (I, S)) r :=
  s_iload rfl rfl rfl <|
  s_aload_n rfl rfl rfl <|
  s_getI rfl rfl rfl <|
  s_icmp_ge 113 rfl rfl kt kf
theorem b_X2_chainOf_85 {d : Nat} {r : PO × PM} {I : Nat → Nat → Int} {S : PS} {a0 a1 : Nat} {x2 x3 x4 x5 x6 x7 x8 x9 x10 : Int} (kt : p_and (p_shr x7 x10) 1 = 0 → Ev d mX2_chainOf (107, [some (vR (some (13, 0, a0))), some (vR (some (11, 0, a1))), some (vI x2), some (vI x3), some (vI x4), some (vI x5), some (vI x6), some (vI x7), some (vI x8), some (vI x9), some (vI x10)], [], (I, S)) r) (kf : p_and (p_shr x7 x10) 1 ≠ 0 → Ev d mX2_chainOf (95, [some (vR (some (13, 0, a0))), some (vR (some (11, 0, a1))), some (vI x2), some (vI x3), some (vI x4), some (vI x5), some (vI x6), some (vI x7), some (vI x8), some (vI x9), some (vI x10)], [], (I, S)) r) : Ev d mX2_chainOf (85, [some (vR (some (13, 0, a0))), some (vR (some (11, 0, a1))), some (vI x2), some (vI x3), some (vI x4), some (vI x5), some (vI x6), some (vI x7), some (vI x8), some (vI x9), some (vI x10)], [], (I, S)) r :=
  s_iload rfl rfl rfl <|
  s_iload rfl rfl rfl <|
  s_ishr rfl <|
  s_iconst rfl rfl <|
  s_iand rfl <|
  s_if_eq 107 rfl rfl kt kf
theorem b_X2_chainOf_95 {d : Nat} {r : PO × PM} {I : Nat → Nat → Int} {S : PS} {a0 a1 p1 q1 : Nat} {x2 x3 x4 x5 x6 x7 x8 x9 x10 : Int} (hr1 : S.1 a1 4 = some (0, q1, p1)) (hi2 : 0 ≤ x10 ∧ x10 < (q1 : Nat)) (k : Ev d mX2_chainOf (107, [some (vR (some (13, 0, a0))), some (vR (some (11, 0, a1))), some (vI x2), some (vI x3), some (vI x4), some (vI x5), some (vI x6), some (vI x7), some (vI x8), some (vI (p_or x9 (I p1 x10.toNat))), some (vI x10)], [], (I, S)) r) : Ev d mX2_chainOf (95, [some (vR (some (13, 0, a0))), some (vR (some (11, 0, a1))), some (vI x2), some (vI x3), some (vI x4), some (vI x5), some (vI x6), some (vI x7), some (vI x8), some (vI x9), some (vI x10)], [], (I, S)) r :=
  s_iload rfl rfl rfl <|
  s_aload_n rfl rfl rfl <|
  s_getR rfl rfl rfl hr1 <|
  s_iload rfl rfl rfl <|
  s_iald rfl rfl hi2 <|
  s_ior rfl <|
  s_istore [some (vR (some (13, 0, a0))), some (vR (some (11, 0, a1))), some (vI x2), some (vI x3), some (vI x4), some (vI x5), some (vI x6), some (vI x7), some (vI x8), some (vI (p_or x9 (I p1 x10.toNat))), some (vI x10)] rfl rfl <|
  k
theorem b_X2_chainOf_107 {d : Nat} {r : PO × PM} {I : Nat → Nat → Int} {S : PS} {a0 a1 : Nat} {x2 x3 x4 x5 x6 x7 x8 x9 x10 : Int} (ho1 : -2147483648 ≤ x10 + 1 ∧ x10 + 1 ≤ 2147483647) (k : Ev d mX2_chainOf (76, [some (vR (some (13, 0, a0))), some (vR (some (11, 0, a1))), some (vI x2), some (vI x3), some (vI x4), some (vI x5), some (vI x6), some (vI x7), some (vI x8), some (vI x9), some (vI (x10 + 1))], [], (I, S)) r) : Ev d mX2_chainOf (107, [some (vR (some (13, 0, a0))), some (vR (some (11, 0, a1))), some (vI x2), some (vI x3), some (vI x4), some (vI x5), some (vI x6), some (vI x7), some (vI x8), some (vI x9), some (vI x10)], [], (I, S)) r :=
  s_iincp [some (vR (some (13, 0, a0))), some (vR (some (11, 0, a1))), some (vI x2), some (vI x3), some (vI x4), some (vI x5), some (vI x6), some (vI x7), some (vI x8), some (vI x9), some (vI (x10 + 1))] rfl rfl ho1 rfl <|
  s_goto 76 rfl rfl k
theorem b_X2_chainOf_113 {d : Nat} {r : PO × PM} {I : Nat → Nat → Int} {S : PS} {a0 a1 : Nat} {x2 x3 x4 x5 x6 x7 x8 x9 x10 : Int} (ho1 : -2147483648 ≤ x8 + 1 ∧ x8 + 1 ≤ 2147483647) (k : Ev d mX2_chainOf (56, [some (vR (some (13, 0, a0))), some (vR (some (11, 0, a1))), some (vI x2), some (vI x3), some (vI x4), some (vI x5), some (vI (p_or x6 (p_and (p_and x9 x5) (p_xor x6 (-1))))), some (vI (p_and (p_and x9 x5) (p_xor x6 (-1)))), some (vI (x8 + 1)), none, none], [], (I, S)) r) : Ev d mX2_chainOf (113, [some (vR (some (13, 0, a0))), some (vR (some (11, 0, a1))), some (vI x2), some (vI x3), some (vI x4), some (vI x5), some (vI x6), some (vI x7), some (vI x8), some (vI x9), some (vI x10)], [], (I, S)) r :=
  s_iload rfl rfl rfl <|
  s_iload rfl rfl rfl <|
  s_iand rfl <|
  s_iload rfl rfl rfl <|
  s_iconst rfl rfl <|
  s_ixor rfl <|
  s_iand rfl <|
  s_istore [some (vR (some (13, 0, a0))), some (vR (some (11, 0, a1))), some (vI x2), some (vI x3), some (vI x4), some (vI x5), some (vI x6), some (vI (p_and (p_and x9 x5) (p_xor x6 (-1)))), some (vI x8), some (vI x9), some (vI x10)] rfl rfl <|
  s_iload rfl rfl rfl <|
  s_iload rfl rfl rfl <|
  s_ior rfl <|
  s_istore [some (vR (some (13, 0, a0))), some (vR (some (11, 0, a1))), some (vI x2), some (vI x3), some (vI x4), some (vI x5), some (vI (p_or x6 (p_and (p_and x9 x5) (p_xor x6 (-1))))), some (vI (p_and (p_and x9 x5) (p_xor x6 (-1)))), some (vI x8), some (vI x9), some (vI x10)] rfl rfl <|
  s_iincp [some (vR (some (13, 0, a0))), some (vR (some (11, 0, a1))), some (vI x2), some (vI x3), some (vI x4), some (vI x5), some (vI (p_or x6 (p_and (p_and x9 x5) (p_xor x6 (-1))))), some (vI (p_and (p_and x9 x5) (p_xor x6 (-1)))), some (vI (x8 + 1)), some (vI x9), some (vI x10)] rfl rfl ho1 rfl <|
  s_goto 56 rfl rfl (ev_forget [false, false, false, false, false, false, false, false, false, true, true] rfl k)
theorem b_X2_chainOf_138 {d : Nat} {I : Nat → Nat → Int} {S : PS} {a0 a1 : Nat} {x2 x3 x4 x5 x6 x7 x8 : Int} : Ev d mX2_chainOf (138, [some (vR (some (13, 0, a0))), some (vR (some (11, 0, a1))), some (vI x2), some (vI x3), some (vI x4), some (vI x5), some (vI x6), some (vI x7), some (vI x8), none, none], [], (I, S)) (.inl (some (vI x6)), (I, S)) :=
  s_iload rfl rfl rfl <|
  s_ret rfl rfl
theorem b_X2_exchange_0 {d : Nat} {I : Nat → Nat → Int} {S : PS} {a0 p1 q1 : Nat} {x1 x2 x3 : Int} (hr1 : S.1 a0 0 = some (0, q1, p1)) (hi2 : 0 ≤ x2 ∧ x2 < (q1 : Nat)) (hi3 : 0 ≤ x3 ∧ x3 < (q1 : Nat)) (hi4 : 0 ≤ x2 ∧ x2 < (q1 : Nat)) (hi5 : 0 ≤ x2 ∧ x2 < (q1 : Nat)) (hi6 : 0 ≤ x3 ∧ x3 < (q1 : Nat)) (hi7 : 0 ≤ x3 ∧ x3 < (q1 : Nat)) : Ev d mX2_exchange (0, [some (vR (some (13, 0, a0))), some (vI x1), some (vI x2), some (vI x3), none, none], [], (I, S)) (.inl none, ((up2 (up2 I p1 (x2.toNat) (p_or (p_and (I p1 x2.toNat) (p_xor x1 (-1))) (p_and (I p1 x3.toNat) x1))) p1 (x3.toNat) (p_or (p_and ((up2 I p1 (x2.toNat) (p_or (p_and (I p1 x2.toNat) (p_xor x1 (-1))) (p_and (I p1 x3.toNat) x1))) p1 x3.toNat) (p_xor x1 (-1))) (p_and (I p1 x2.toNat) x1))), S)) :=
  s_aload_n rfl rfl rfl <|
  s_getR rfl rfl rfl hr1 <|
  s_iload_n rfl rfl rfl <|
  s_iald rfl rfl hi2 <|
  s_iload_n rfl rfl rfl <|
  s_iand rfl <|
  s_istore [some (vR (some (13, 0, a0))), some (vI x1), some (vI x2), some (vI x3), some (vI (p_and (I p1 x2.toNat) x1)), none] rfl rfl <|
  s_aload_n rfl rfl rfl <|
  s_getR rfl rfl rfl hr1 <|
  s_iload_n rfl rfl rfl <|
  s_iald rfl rfl hi3 <|
  s_iload_n rfl rfl rfl <|
  s_iand rfl <|
  s_istore [some (vR (some (13, 0, a0))), some (vI x1), some (vI x2), some (vI x3), some (vI (p_and (I p1 x2.toNat) x1)), some (vI (p_and (I p1 x3.toNat) x1))] rfl rfl <|
  s_aload_n rfl rfl rfl <|
  s_getR rfl rfl rfl hr1 <|
  s_iload_n rfl rfl rfl <|
  s_aload_n rfl rfl rfl <|
  s_getR rfl rfl rfl hr1 <|
  s_iload_n rfl rfl rfl <|
  s_iald rfl rfl hi4 <|
  s_iload_n rfl rfl rfl <|
  s_iconst rfl rfl <|
  s_ixor rfl <|
  s_iand rfl <|
  s_iload rfl rfl rfl <|
  s_ior rfl <|
  s_iast rfl hi5 <|
  s_aload_n rfl rfl rfl <|
  s_getR rfl rfl rfl hr1 <|
  s_iload_n rfl rfl rfl <|
  s_aload_n rfl rfl rfl <|
  s_getR rfl rfl rfl hr1 <|
  s_iload_n rfl rfl rfl <|
  s_iald rfl rfl hi6 <|
  s_iload_n rfl rfl rfl <|
  s_iconst rfl rfl <|
  s_ixor rfl <|
  s_iand rfl <|
  s_iload rfl rfl rfl <|
  s_ior rfl <|
  s_iast rfl hi7 <|
  s_vret rfl rfl
theorem b_X2_attempt_0 {d : Nat} {r : PO × PM} {I : Nat → Nat → Int} {S : PS} {a0 a1 : Nat} {x2 x3 x4 : Int} (kt : x3 < 0 → Ev d mX2_attempt (12, [some (vR (some (13, 0, a0))), some (vR (some (11, 0, a1))), some (vI x2), some (vI x3), some (vI x4), none, none], [], (I, S)) r) (kf : 0 ≤ x3 → Ev d mX2_attempt (4, [some (vR (some (13, 0, a0))), some (vR (some (11, 0, a1))), some (vI x2), some (vI x3), some (vI x4), none, none], [], (I, S)) r) : Ev d mX2_attempt (0, [some (vR (some (13, 0, a0))), some (vR (some (11, 0, a1))), some (vI x2), some (vI x3), some (vI x4), none, none], [], (I, S)) r :=
  s_iload_n rfl rfl rfl <|
  s_if_lt 12 rfl rfl kt kf
theorem b_X2_attempt_4 {d : Nat} {r : PO × PM} {I : Nat → Nat → Int} {S : PS} {a0 a1 : Nat} {x2 x3 x4 : Int} (kt : x3 < I a1 6 → Ev d mX2_attempt (14, [some (vR (some (13, 0, a0))), some (vR (some (11, 0, a1))), some (vI x2), some (vI x3), some (vI x4), none, none], [], (I, S)) r) (kf : I a1 6 ≤ x3 → Ev d mX2_attempt (12, [some (vR (some (13, 0, a0))), some (vR (some (11, 0, a1))), some (vI x2), some (vI x3), some (vI x4), none, none], [], (I, S)) r) : Ev d mX2_attempt (4, [some (vR (some (13, 0, a0))), some (vR (some (11, 0, a1))), some (vI x2), some (vI x3), some (vI x4), none, none], [], (I, S)) r :=
  s_iload_n rfl rfl rfl <|
  s_aload_n rfl rfl rfl <|
  s_getI rfl rfl rfl <|
  s_icmp_lt 14 rfl rfl kt kf
theorem b_X2_attempt_12 {d : Nat} {I : Nat → Nat → Int} {S : PS} {a0 a1 : Nat} {x2 x3 x4 : Int} : Ev d mX2_attempt (12, [some (vR (some (13, 0, a0))), some (vR (some (11, 0, a1))), some (vI x2), some (vI x3), some (vI x4), none, none], [], (I, S)) (.inl (some (vI 0)), (I, S)) :=
  s_iconst rfl rfl <|
  s_ret rfl rfl
theorem b_X2_attempt_14 {d : Nat} {r : PO × PM} {I : Nat → Nat → Int} {S : PS} {a0 a1 : Nat} {x2 x3 x4 z : Int} {I1 : Nat → Nat → Int} {S1 : PS} (c : Ca d mX2_colourAt [vR (some (13, 0, a0)), vI x3] (I, S) (.inl (some (vI z))) (I1, S1)) (k : Ev (d + 1) mX2_attempt (19, [some (vR (some (13, 0, a0))), some (vR (some (11, 0, a1))), some (vI x2), some (vI x3), some (vI x4), none, none], [vI z], (I1, S1)) r) : Ev (d + 1) mX2_attempt (14, [some (vR (some (13, 0, a0))), some (vR (some (11, 0, a1))), some (vI x2), some (vI x3), some (vI x4), none, none], [], (I, S)) r :=
  s_aload_n rfl rfl rfl <|
  s_iload_n rfl rfl rfl <|
  s_cvI rfl rfl rfl rfl rfl c k
theorem b_X2_attempt_19 {d : Nat} {r : PO × PM} {I : Nat → Nat → Int} {S : PS} {a0 a1 : Nat} {x2 x3 x4 xs0 : Int} (kt : x2 ≠ 0 → Ev d mX2_attempt (45, [some (vR (some (13, 0, a0))), some (vR (some (11, 0, a1))), some (vI x2), some (vI x3), some (vI x4), some (vI xs0), none], [], (I, S)) r) (kf : x2 = 0 → Ev d mX2_attempt (25, [some (vR (some (13, 0, a0))), some (vR (some (11, 0, a1))), some (vI x2), some (vI x3), some (vI x4), some (vI xs0), none], [], (I, S)) r) : Ev d mX2_attempt (19, [some (vR (some (13, 0, a0))), some (vR (some (11, 0, a1))), some (vI x2), some (vI x3), some (vI x4), none, none], [vI xs0], (I, S)) r :=
  s_istore [some (vR (some (13, 0, a0))), some (vR (some (11, 0, a1))), some (vI x2), some (vI x3), some (vI x4), some (vI xs0), none] rfl rfl <|
  s_iload_n rfl rfl rfl <|
  s_if_ne 45 rfl rfl kt kf
theorem b_X2_attempt_25 {d : Nat} {r : PO × PM} {I : Nat → Nat → Int} {S : PS} {a0 a1 : Nat} {x2 x3 x4 x5 z : Int} {I1 : Nat → Nat → Int} {S1 : PS} (c : Ca d mX2_mayPaint [vR (some (13, 0, a0)), vR (some (11, 0, a1)), vI x3, vI x4] (I, S) (.inl (some (vI z))) (I1, S1)) (k : Ev (d + 1) mX2_attempt (33, [some (vR (some (13, 0, a0))), some (vR (some (11, 0, a1))), some (vI x2), some (vI x3), some (vI x4), some (vI x5), none], [vI z], (I1, S1)) r) : Ev (d + 1) mX2_attempt (25, [some (vR (some (13, 0, a0))), some (vR (some (11, 0, a1))), some (vI x2), some (vI x3), some (vI x4), some (vI x5), none], [], (I, S)) r :=
  s_aload_n rfl rfl rfl <|
  s_aload_n rfl rfl rfl <|
  s_iload_n rfl rfl rfl <|
  s_iload rfl rfl rfl <|
  s_cvI rfl rfl rfl rfl rfl c k
theorem b_X2_attempt_33 {d : Nat} {r : PO × PM} {I : Nat → Nat → Int} {S : PS} {a0 a1 : Nat} {x2 x3 x4 x5 xs0 : Int} (kt : xs0 = 0 → Ev d mX2_attempt (45, [some (vR (some (13, 0, a0))), some (vR (some (11, 0, a1))), some (vI x2), some (vI x3), some (vI x4), some (vI x5), none], [], (I, S)) r) (kf : xs0 ≠ 0 → Ev d mX2_attempt (36, [some (vR (some (13, 0, a0))), some (vR (some (11, 0, a1))), some (vI x2), some (vI x3), some (vI x4), some (vI x5), none], [], (I, S)) r) : Ev d mX2_attempt (33, [some (vR (some (13, 0, a0))), some (vR (some (11, 0, a1))), some (vI x2), some (vI x3), some (vI x4), some (vI x5), none], [vI xs0], (I, S)) r :=
  s_if_eq 45 rfl rfl kt kf
theorem b_X2_attempt_36 {d : Nat} {r : PO × PM} {I : Nat → Nat → Int} {S : PS} {a0 a1 : Nat} {x2 x3 x4 x5 : Int} {I1 : Nat → Nat → Int} {S1 : PS} (c : Ca d mX2_put [vR (some (13, 0, a0)), vI x3, vI x4] (I, S) (.inl none) (I1, S1)) (k : Ev (d + 1) mX2_attempt (43, [some (vR (some (13, 0, a0))), some (vR (some (11, 0, a1))), some (vI x2), some (vI x3), some (vI x4), some (vI x5), none], [], (I1, S1)) r) : Ev (d + 1) mX2_attempt (36, [some (vR (some (13, 0, a0))), some (vR (some (11, 0, a1))), some (vI x2), some (vI x3), some (vI x4), some (vI x5), none], [], (I, S)) r :=
  s_aload_n rfl rfl rfl <|
  s_iload_n rfl rfl rfl <|
  s_iload rfl rfl rfl <|
  s_cvV rfl rfl rfl rfl rfl c k
theorem b_X2_attempt_43 {d : Nat} {I : Nat → Nat → Int} {S : PS} {a0 a1 : Nat} {x2 x3 x4 x5 : Int} : Ev d mX2_attempt (43, [some (vR (some (13, 0, a0))), some (vR (some (11, 0, a1))), some (vI x2), some (vI x3), some (vI x4), some (vI x5), none], [], (I, S)) (.inl (some (vI 1)), (I, S)) :=
  s_iconst rfl rfl <|
  s_ret rfl rfl
theorem b_X2_attempt_45 {d : Nat} {r : PO × PM} {I : Nat → Nat → Int} {S : PS} {a0 a1 : Nat} {x2 x3 x4 x5 : Int} (kt : x2 ≠ 1 → Ev d mX2_attempt (65, [some (vR (some (13, 0, a0))), some (vR (some (11, 0, a1))), some (vI x2), some (vI x3), some (vI x4), some (vI x5), none], [], (I, S)) r) (kf : x2 = 1 → Ev d mX2_attempt (50, [some (vR (some (13, 0, a0))), some (vR (some (11, 0, a1))), some (vI x2), some (vI x3), some (vI x4), some (vI x5), none], [], (I, S)) r) : Ev d mX2_attempt (45, [some (vR (some (13, 0, a0))), some (vR (some (11, 0, a1))), some (vI x2), some (vI x3), some (vI x4), some (vI x5), none], [], (I, S)) r :=
  s_iload_n rfl rfl rfl <|
  s_iconst rfl rfl <|
  s_icmp_ne 65 rfl rfl kt kf
theorem b_X2_attempt_50 {d : Nat} {r : PO × PM} {I : Nat → Nat → Int} {S : PS} {a0 a1 : Nat} {x2 x3 x4 x5 : Int} (kt : x5 = (-1) → Ev d mX2_attempt (65, [some (vR (some (13, 0, a0))), some (vR (some (11, 0, a1))), some (vI x2), some (vI x3), some (vI x4), some (vI x5), none], [], (I, S)) r) (kf : x5 ≠ (-1) → Ev d mX2_attempt (56, [some (vR (some (13, 0, a0))), some (vR (some (11, 0, a1))), some (vI x2), some (vI x3), some (vI x4), some (vI x5), none], [], (I, S)) r) : Ev d mX2_attempt (50, [some (vR (some (13, 0, a0))), some (vR (some (11, 0, a1))), some (vI x2), some (vI x3), some (vI x4), some (vI x5), none], [], (I, S)) r :=
  s_iload rfl rfl rfl <|
  s_iconst rfl rfl <|
  s_icmp_eq 65 rfl rfl kt kf
theorem b_X2_attempt_56 {d : Nat} {r : PO × PM} {I : Nat → Nat → Int} {S : PS} {a0 a1 : Nat} {x2 x3 x4 x5 : Int} {I1 : Nat → Nat → Int} {S1 : PS} (c : Ca d mX2_take [vR (some (13, 0, a0)), vI x3, vI x5] (I, S) (.inl none) (I1, S1)) (k : Ev (d + 1) mX2_attempt (63, [some (vR (some (13, 0, a0))), some (vR (some (11, 0, a1))), some (vI x2), some (vI x3), some (vI x4), some (vI x5), none], [], (I1, S1)) r) : Ev (d + 1) mX2_attempt (56, [some (vR (some (13, 0, a0))), some (vR (some (11, 0, a1))), some (vI x2), some (vI x3), some (vI x4), some (vI x5), none], [], (I, S)) r :=
  s_aload_n rfl rfl rfl <|
  s_iload_n rfl rfl rfl <|
  s_iload rfl rfl rfl <|
  s_cvV rfl rfl rfl rfl rfl c k
theorem b_X2_attempt_63 {d : Nat} {I : Nat → Nat → Int} {S : PS} {a0 a1 : Nat} {x2 x3 x4 x5 : Int} : Ev d mX2_attempt (63, [some (vR (some (13, 0, a0))), some (vR (some (11, 0, a1))), some (vI x2), some (vI x3), some (vI x4), some (vI x5), none], [], (I, S)) (.inl (some (vI 1)), (I, S)) :=
  s_iconst rfl rfl <|
  s_ret rfl rfl
theorem b_X2_attempt_65 {d : Nat} {r : PO × PM} {I : Nat → Nat → Int} {S : PS} {a0 a1 : Nat} {x2 x3 x4 x5 : Int} (kt : x2 ≠ 2 → Ev d mX2_attempt (81, [some (vR (some (13, 0, a0))), some (vR (some (11, 0, a1))), some (vI x2), some (vI x3), some (vI x4), some (vI x5), none], [], (I, S)) r) (kf : x2 = 2 → Ev d mX2_attempt (70, [some (vR (some (13, 0, a0))), some (vR (some (11, 0, a1))), some (vI x2), some (vI x3), some (vI x4), some (vI x5), none], [], (I, S)) r) : Ev d mX2_attempt (65, [some (vR (some (13, 0, a0))), some (vR (some (11, 0, a1))), some (vI x2), some (vI x3), some (vI x4), some (vI x5), none], [], (I, S)) r :=
  s_iload_n rfl rfl rfl <|
  s_iconst rfl rfl <|
  s_icmp_ne 81 rfl rfl kt kf
theorem b_X2_attempt_70 {d : Nat} {r : PO × PM} {I : Nat → Nat → Int} {S : PS} {a0 a1 : Nat} {x2 x3 x4 x5 z : Int} {I1 : Nat → Nat → Int} {S1 : PS} (c : Ca d mX2_chainOf [vR (some (13, 0, a0)), vR (some (11, 0, a1)), vI x3, vI x4] (I, S) (.inl (some (vI z))) (I1, S1)) (k : Ev (d + 1) mX2_attempt (78, [some (vR (some (13, 0, a0))), some (vR (some (11, 0, a1))), some (vI x2), some (vI x3), some (vI x4), some (vI x5), none], [vI z], (I1, S1)) r) : Ev (d + 1) mX2_attempt (70, [some (vR (some (13, 0, a0))), some (vR (some (11, 0, a1))), some (vI x2), some (vI x3), some (vI x4), some (vI x5), none], [], (I, S)) r :=
  s_aload_n rfl rfl rfl <|
  s_aload_n rfl rfl rfl <|
  s_iload_n rfl rfl rfl <|
  s_iload rfl rfl rfl <|
  s_cvI rfl rfl rfl rfl rfl c k
theorem b_X2_attempt_78 {d : Nat} {r : PO × PM} {I : Nat → Nat → Int} {S : PS} {a0 a1 : Nat} {x2 x3 x4 x5 xs0 : Int} (k : Ev d mX2_attempt (82, [some (vR (some (13, 0, a0))), some (vR (some (11, 0, a1))), some (vI x2), some (vI x3), some (vI x4), some (vI x5), none], [vI xs0], (I, S)) r) : Ev d mX2_attempt (78, [some (vR (some (13, 0, a0))), some (vR (some (11, 0, a1))), some (vI x2), some (vI x3), some (vI x4), some (vI x5), none], [vI xs0], (I, S)) r :=
  s_goto 82 rfl rfl k
theorem b_X2_attempt_81 {d : Nat} {r : PO × PM} {I : Nat → Nat → Int} {S : PS} {a0 a1 : Nat} {x2 x3 x4 x5 : Int} (k : Ev d mX2_attempt (82, [some (vR (some (13, 0, a0))), some (vR (some (11, 0, a1))), some (vI x2), some (vI x3), some (vI x4), some (vI x5), none], [vI 0], (I, S)) r) : Ev d mX2_attempt (81, [some (vR (some (13, 0, a0))), some (vR (some (11, 0, a1))), some (vI x2), some (vI x3), some (vI x4), some (vI x5), none], [], (I, S)) r :=
  s_iconst rfl rfl <|
  k
theorem b_X2_attempt_82 {d : Nat} {r : PO × PM} {I : Nat → Nat → Int} {S : PS} {a0 a1 : Nat} {x2 x3 x4 x5 xs0 : Int} (kt : xs0 ≠ 0 → Ev d mX2_attempt (91, [some (vR (some (13, 0, a0))), some (vR (some (11, 0, a1))), some (vI x2), some (vI x3), some (vI x4), some (vI x5), some (vI xs0)], [], (I, S)) r) (kf : xs0 = 0 → Ev d mX2_attempt (89, [some (vR (some (13, 0, a0))), some (vR (some (11, 0, a1))), some (vI x2), some (vI x3), some (vI x4), some (vI x5), some (vI xs0)], [], (I, S)) r) : Ev d mX2_attempt (82, [some (vR (some (13, 0, a0))), some (vR (some (11, 0, a1))), some (vI x2), some (vI x3), some (vI x4), some (vI x5), none], [vI xs0], (I, S)) r :=
  s_istore [some (vR (some (13, 0, a0))), some (vR (some (11, 0, a1))), some (vI x2), some (vI x3), some (vI x4), some (vI x5), some (vI xs0)] rfl rfl <|
  s_iload rfl rfl rfl <|
  s_if_ne 91 rfl rfl kt kf
theorem b_X2_attempt_89 {d : Nat} {I : Nat → Nat → Int} {S : PS} {a0 a1 : Nat} {x2 x3 x4 x5 x6 : Int} : Ev d mX2_attempt (89, [some (vR (some (13, 0, a0))), some (vR (some (11, 0, a1))), some (vI x2), some (vI x3), some (vI x4), some (vI x5), some (vI x6)], [], (I, S)) (.inl (some (vI 0)), (I, S)) :=
  s_iconst rfl rfl <|
  s_ret rfl rfl
theorem b_X2_attempt_91 {d : Nat} {r : PO × PM} {I : Nat → Nat → Int} {S : PS} {a0 a1 : Nat} {x2 x3 x4 x5 x6 : Int} {I1 : Nat → Nat → Int} {S1 : PS} (c : Ca d mX2_exchange [vR (some (13, 0, a0)), vI x6, vI x5, vI x4] (I, S) (.inl none) (I1, S1)) (k : Ev (d + 1) mX2_attempt (101, [some (vR (some (13, 0, a0))), some (vR (some (11, 0, a1))), some (vI x2), some (vI x3), some (vI x4), some (vI x5), some (vI x6)], [], (I1, S1)) r) : Ev (d + 1) mX2_attempt (91, [some (vR (some (13, 0, a0))), some (vR (some (11, 0, a1))), some (vI x2), some (vI x3), some (vI x4), some (vI x5), some (vI x6)], [], (I, S)) r :=
  s_aload_n rfl rfl rfl <|
  s_iload rfl rfl rfl <|
  s_iload rfl rfl rfl <|
  s_iload rfl rfl rfl <|
  s_cvV rfl rfl rfl rfl rfl c k
theorem b_X2_attempt_101 {d : Nat} {I : Nat → Nat → Int} {S : PS} {a0 a1 : Nat} {x2 x3 x4 x5 x6 : Int} : Ev d mX2_attempt (101, [some (vR (some (13, 0, a0))), some (vR (some (11, 0, a1))), some (vI x2), some (vI x3), some (vI x4), some (vI x5), some (vI x6)], [], (I, S)) (.inl (some (vI 1)), (I, S)) :=
  s_iconst rfl rfl <|
  s_ret rfl rfl
end
