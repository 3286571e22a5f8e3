noncomputable section
theorem b_X12_painted_0 {d : Nat} {r : PO × PM} {I : Nat → Nat → Int} {S : PS} {a0 : Nat} {x1 : Int} (k : Ev d mX12_painted (4, [some (vR (some (22, 0, a0))), some (vI x1), some (vI 0), some (vI 0)], [], (I, S)) r) : Ev d mX12_painted (0, [some (vR (some (22, 0, a0))), some (vI x1), none, none], [], (I, S)) r :=
  s_iconst rfl rfl <|
  s_istore_n [some (vR (some (22, 0, a0))), some (vI x1), some (vI 0), none] rfl rfl <|
  s_iconst rfl rfl <|
  s_istore_n [some (vR (some (22, 0, a0))), some (vI x1), some (vI 0), some (vI 0)] rfl rfl <|
  k
theorem b_X12_painted_4 {d : Nat} {r : PO × PM} {I : Nat → Nat → Int} {S : PS} {a0 : Nat} {x1 x2 x3 : Int} (kt : I a0 15 ≤ x3 → Ev d mX12_painted (38, [some (vR (some (22, 0, a0))), some (vI x1), some (vI x2), some (vI x3)], [], (I, S)) r) (kf : x3 < I a0 15 → Ev d mX12_painted (12, [some (vR (some (22, 0, a0))), some (vI x1), some (vI x2), some (vI x3)], [], (I, S)) r) : Ev d mX12_painted (4, [some (vR (some (22, 0, a0))), some (vI x1), some (vI x2), some (vI x3)], [], (I, S)) r :=
  s_iload_n rfl rfl rfl <|
  s_aload_n rfl rfl rfl <|
  s_getI rfl rfl rfl <|
  s_icmp_ge 38 rfl rfl kt kf
theorem b_X12_painted_12 {d : Nat} {r : PO × PM} {I : Nat → Nat → Int} {S : PS} {a0 p1 q1 : Nat} {x1 x2 x3 : Int} (hr1 : S.1 a0 39 = some (0, q1, p1)) (ho2 : -2147483648 ≤ x1 + x3 ∧ x1 + x3 ≤ 2147483647) (hi3 : 0 ≤ x1 + x3 ∧ x1 + x3 < (q1 : Nat)) (kt : I p1 (x1 + x3).toNat ≠ (-1) → Ev d mX12_painted (29, [some (vR (some (22, 0, a0))), some (vI x1), some (vI x2), some (vI x3)], [vI x2], (I, S)) r) (kf : I p1 (x1 + x3).toNat = (-1) → Ev d mX12_painted (25, [some (vR (some (22, 0, a0))), some (vI x1), some (vI x2), some (vI x3)], [vI x2], (I, S)) r) : Ev d mX12_painted (12, [some (vR (some (22, 0, a0))), some (vI x1), some (vI x2), some (vI x3)], [], (I, S)) r :=
  s_iload_n rfl rfl rfl <|
  s_aload_n rfl rfl rfl <|
  s_getR rfl rfl rfl hr1 <|
  s_iload_n rfl rfl rfl <|
  s_iload_n rfl rfl rfl <|
  s_iaddp rfl ho2 <|
  s_iald rfl rfl hi3 <|
  s_iconst rfl rfl <|
  s_icmp_ne 29 rfl rfl kt kf
theorem b_X12_painted_25 {d : Nat} {r : PO × PM} {I : Nat → Nat → Int} {S : PS} {a0 : Nat} {x1 x2 x3 xs0 : Int} (k : Ev d mX12_painted (30, [some (vR (some (22, 0, a0))), some (vI x1), some (vI x2), some (vI x3)], [vI 0, vI xs0], (I, S)) r) : Ev d mX12_painted (25, [some (vR (some (22, 0, a0))), some (vI x1), some (vI x2), some (vI x3)], [vI xs0], (I, S)) r :=
  s_iconst rfl rfl <|
  s_goto 30 rfl rfl k
theorem b_X12_painted_29 {d : Nat} {r : PO × PM} {I : Nat → Nat → Int} {S : PS} {a0 : Nat} {x1 x2 x3 xs0 : Int} (k : Ev d mX12_painted (30, [some (vR (some (22, 0, a0))), some (vI x1), some (vI x2), some (vI x3)], [vI 1, vI xs0], (I, S)) r) : Ev d mX12_painted (29, [some (vR (some (22, 0, a0))), some (vI x1), some (vI x2), some (vI x3)], [vI xs0], (I, S)) r :=
  s_iconst rfl rfl <|
  k
theorem b_X12_painted_30 {d : Nat} {r : PO × PM} {I : Nat → Nat → Int} {S : PS} {a0 : Nat} {x1 x2 x3 xs0 xs1 : Int} (ho1 : -2147483648 ≤ xs0 + xs1 ∧ xs0 + xs1 ≤ 2147483647) (ho2 : -2147483648 ≤ x3 + 1 ∧ x3 + 1 ≤ 2147483647) (k : Ev d mX12_painted (4, [some (vR (some (22, 0, a0))), some (vI x1), some (vI (xs0 + xs1)), some (vI (x3 + 1))], [], (I, S)) r) : Ev d mX12_painted (30, [some (vR (some (22, 0, a0))), some (vI x1), some (vI x2), some (vI x3)], [vI xs1, vI xs0], (I, S)) r :=
  s_iaddp rfl ho1 <|
  s_istore_n [some (vR (some (22, 0, a0))), some (vI x1), some (vI (xs0 + xs1)), some (vI x3)] rfl rfl <|
  s_iincp [some (vR (some (22, 0, a0))), some (vI x1), some (vI (xs0 + xs1)), some (vI (x3 + 1))] rfl rfl ho2 rfl <|
  s_goto 4 rfl rfl k
theorem b_X12_painted_38 {d : Nat} {I : Nat → Nat → Int} {S : PS} {a0 : Nat} {x1 x2 x3 : Int} : Ev d mX12_painted (38, [some (vR (some (22, 0, a0))), some (vI x1), some (vI x2), some (vI x3)], [], (I, S)) (.inl (some (vI x2)), (I, S)) :=
  s_iload_n rfl rfl rfl <|
  s_ret rfl rfl
theorem b_X12_openOnes_0 {d : Nat} {r : PO × PM} {I : Nat → Nat → Int} {S : PS} {a0 : Nat} (k : Ev d mX12_openOnes (4, [some (vR (some (22, 0, a0))), some (vI 0), some (vI 0)], [], (I, S)) r) : Ev d mX12_openOnes (0, [some (vR (some (22, 0, a0))), none, none], [], (I, S)) r :=
  s_iconst rfl rfl <|
  s_istore_n [some (vR (some (22, 0, a0))), some (vI 0), none] rfl rfl <|
  s_iconst rfl rfl <|
  s_istore_n [some (vR (some (22, 0, a0))), some (vI 0), some (vI 0)] rfl rfl <|
  k
theorem b_X12_openOnes_4 {d : Nat} {r : PO × PM} {I : Nat → Nat → Int} {S : PS} {a0 : Nat} {x1 x2 : Int} (kt : I a0 15 ≤ x2 → Ev d mX12_openOnes (57, [some (vR (some (22, 0, a0))), some (vI x1), some (vI x2)], [], (I, S)) r) (kf : x2 < I a0 15 → Ev d mX12_openOnes (12, [some (vR (some (22, 0, a0))), some (vI x1), some (vI x2)], [], (I, S)) r) : Ev d mX12_openOnes (4, [some (vR (some (22, 0, a0))), some (vI x1), some (vI x2)], [], (I, S)) r :=
  s_iload_n rfl rfl rfl <|
  s_aload_n rfl rfl rfl <|
  s_getI rfl rfl rfl <|
  s_icmp_ge 57 rfl rfl kt kf
theorem b_X12_openOnes_12 {d : Nat} {r : PO × PM} {I : Nat → Nat → Int} {S : PS} {a0 : Nat} {x1 x2 z : Int} {I1 : Nat → Nat → Int} {S1 : PS} (c : Ca d mX12_behind [vR (some (22, 0, a0)), vI 0, vI x2] (I, S) (.inl (some (vI z))) (I1, S1)) (k : Ev (d + 1) mX12_openOnes (18, [some (vR (some (22, 0, a0))), some (vI x1), some (vI x2)], [vI z], (I1, S1)) r) : Ev (d + 1) mX12_openOnes (12, [some (vR (some (22, 0, a0))), some (vI x1), some (vI x2)], [], (I, S)) r :=
  s_aload_n rfl rfl rfl <|
  s_iconst rfl rfl <|
  s_iload_n rfl rfl rfl <|
  s_cvI rfl rfl rfl rfl rfl c k
theorem b_X12_openOnes_18 {d : Nat} {r : PO × PM} {I : Nat → Nat → Int} {S : PS} {a0 : Nat} {x1 x2 xs0 : Int} (kt : 0 < xs0 → Ev d mX12_openOnes (24, [some (vR (some (22, 0, a0))), some (vI x1), some (vI x2)], [], (I, S)) r) (kf : xs0 ≤ 0 → Ev d mX12_openOnes (21, [some (vR (some (22, 0, a0))), some (vI x1), some (vI x2)], [], (I, S)) r) : Ev d mX12_openOnes (18, [some (vR (some (22, 0, a0))), some (vI x1), some (vI x2)], [vI xs0], (I, S)) r :=
  s_if_gt 24 rfl rfl kt kf
theorem b_X12_openOnes_21 {d : Nat} {r : PO × PM} {I : Nat → Nat → Int} {S : PS} {a0 : Nat} {x1 x2 : Int} (k : Ev d mX12_openOnes (51, [some (vR (some (22, 0, a0))), some (vI x1), some (vI x2)], [], (I, S)) r) : Ev d mX12_openOnes (21, [some (vR (some (22, 0, a0))), some (vI x1), some (vI x2)], [], (I, S)) r :=
  s_goto 51 rfl rfl k
theorem b_X12_openOnes_24 {d : Nat} {r : PO × PM} {I : Nat → Nat → Int} {S : PS} {a0 : Nat} {x1 x2 : Int} {I1 : Nat → Nat → Int} {S1 : PS} (c : Ca d mX12_laysNear [vR (some (22, 0, a0)), vI x2] (I, S) (.inl none) (I1, S1)) (k : Ev (d + 1) mX12_openOnes (29, [some (vR (some (22, 0, a0))), some (vI x1), some (vI x2)], [], (I1, S1)) r) : Ev (d + 1) mX12_openOnes (24, [some (vR (some (22, 0, a0))), some (vI x1), some (vI x2)], [], (I, S)) r :=
  s_aload_n rfl rfl rfl <|
  s_iload_n rfl rfl rfl <|
  s_cvV rfl rfl rfl rfl rfl c k
theorem b_X12_openOnes_29 {d : Nat} {r : PO × PM} {I : Nat → Nat → Int} {S : PS} {a0 : Nat} {x1 x2 z : Int} {I1 : Nat → Nat → Int} {S1 : PS} (c : Ca d mX12_degree [vR (some (22, 0, a0)), vI x2] (I, S) (.inl (some (vI z))) (I1, S1)) (k : Ev (d + 1) mX12_openOnes (36, [some (vR (some (22, 0, a0))), some (vI x1), some (vI x2)], [vI z, vR (some (22, 0, a0)), vI x1], (I1, S1)) r) : Ev (d + 1) mX12_openOnes (29, [some (vR (some (22, 0, a0))), some (vI x1), some (vI x2)], [], (I, S)) r :=
  s_iload_n rfl rfl rfl <|
  s_aload_n rfl rfl rfl <|
  s_aload_n rfl rfl rfl <|
  s_iload_n rfl rfl rfl <|
  s_cvI rfl rfl rfl rfl rfl c k
theorem b_X12_openOnes_36 {d : Nat} {r : PO × PM} {I : Nat → Nat → Int} {S : PS} {a0 as1 : Nat} {x1 x2 xs0 xs2 z : Int} {I1 : Nat → Nat → Int} {S1 : PS} (c : Ca d mX12_isCovered [vR (some (22, 0, as1)), vI xs2] (I, S) (.inl (some (vI z))) (I1, S1)) (k : Ev (d + 1) mX12_openOnes (39, [some (vR (some (22, 0, a0))), some (vI x1), some (vI x2)], [vI z, vI xs0], (I1, S1)) r) : Ev (d + 1) mX12_openOnes (36, [some (vR (some (22, 0, a0))), some (vI x1), some (vI x2)], [vI xs2, vR (some (22, 0, as1)), vI xs0], (I, S)) r :=
  s_cvI rfl rfl rfl rfl rfl c k
theorem b_X12_openOnes_39 {d : Nat} {r : PO × PM} {I : Nat → Nat → Int} {S : PS} {a0 : Nat} {x1 x2 xs0 xs1 : Int} (kt : xs1 = 0 → Ev d mX12_openOnes (46, [some (vR (some (22, 0, a0))), some (vI x1), some (vI x2)], [vI xs0], (I, S)) r) (kf : xs1 ≠ 0 → Ev d mX12_openOnes (42, [some (vR (some (22, 0, a0))), some (vI x1), some (vI x2)], [vI xs0], (I, S)) r) : Ev d mX12_openOnes (39, [some (vR (some (22, 0, a0))), some (vI x1), some (vI x2)], [vI xs1, vI xs0], (I, S)) r :=
  s_if_eq 46 rfl rfl kt kf
theorem b_X12_openOnes_42 {d : Nat} {r : PO × PM} {I : Nat → Nat → Int} {S : PS} {a0 : Nat} {x1 x2 xs0 : Int} (k : Ev d mX12_openOnes (49, [some (vR (some (22, 0, a0))), some (vI x1), some (vI x2)], [vI 0, vI xs0], (I, S)) r) : Ev d mX12_openOnes (42, [some (vR (some (22, 0, a0))), some (vI x1), some (vI x2)], [vI xs0], (I, S)) r :=
  s_iconst rfl rfl <|
  s_goto 49 rfl rfl k
theorem b_X12_openOnes_46 {d : Nat} {r : PO × PM} {I : Nat → Nat → Int} {S : PS} {a0 : Nat} {x1 x2 xs0 : Int} (k : Ev d mX12_openOnes (49, [some (vR (some (22, 0, a0))), some (vI x1), some (vI x2)], [vI (p_shl 1 x2), vI xs0], (I, S)) r) : Ev d mX12_openOnes (46, [some (vR (some (22, 0, a0))), some (vI x1), some (vI x2)], [vI xs0], (I, S)) r :=
  s_iconst rfl rfl <|
  s_iload_n rfl rfl rfl <|
  s_ishl rfl <|
  k
theorem b_X12_openOnes_49 {d : Nat} {r : PO × PM} {I : Nat → Nat → Int} {S : PS} {a0 : Nat} {x1 x2 xs0 xs1 : Int} (k : Ev d mX12_openOnes (51, [some (vR (some (22, 0, a0))), some (vI (p_or xs0 xs1)), some (vI x2)], [], (I, S)) r) : Ev d mX12_openOnes (49, [some (vR (some (22, 0, a0))), some (vI x1), some (vI x2)], [vI xs1, vI xs0], (I, S)) r :=
  s_ior rfl <|
  s_istore_n [some (vR (some (22, 0, a0))), some (vI (p_or xs0 xs1)), some (vI x2)] rfl rfl <|
  k
theorem b_X12_openOnes_51 {d : Nat} {r : PO × PM} {I : Nat → Nat → Int} {S : PS} {a0 : Nat} {x1 x2 : Int} (ho1 : -2147483648 ≤ x2 + 1 ∧ x2 + 1 ≤ 2147483647) (k : Ev d mX12_openOnes (4, [some (vR (some (22, 0, a0))), some (vI x1), some (vI (x2 + 1))], [], (I, S)) r) : Ev d mX12_openOnes (51, [some (vR (some (22, 0, a0))), some (vI x1), some (vI x2)], [], (I, S)) r :=
  s_iincp [some (vR (some (22, 0, a0))), some (vI x1), some (vI (x2 + 1))] rfl rfl ho1 rfl <|
  s_goto 4 rfl rfl k
theorem b_X12_openOnes_57 {d : Nat} {I : Nat → Nat → Int} {S : PS} {a0 : Nat} {x1 x2 : Int} : Ev d mX12_openOnes (57, [some (vR (some (22, 0, a0))), some (vI x1), some (vI x2)], [], (I, S)) (.inl (some (vI x1)), (I, S)) :=
  s_iload_n rfl rfl rfl <|
  s_ret rfl rfl
theorem b_X12_chargeAll_0 {d : Nat} {r : PO × PM} {I : Nat → Nat → Int} {S : PS} {a0 : Nat} {x1 : Int} (k : Ev d mX12_chargeAll (4, [some (vR (some (22, 0, a0))), some (vI x1), some (vI 0), some (vI 0)], [], (I, S)) r) : Ev d mX12_chargeAll (0, [some (vR (some (22, 0, a0))), some (vI x1), none, none], [], (I, S)) r :=
  s_iconst rfl rfl <|
  s_istore_n [some (vR (some (22, 0, a0))), some (vI x1), some (vI 0), none] rfl rfl <|
  s_iconst rfl rfl <|
  s_istore_n [some (vR (some (22, 0, a0))), some (vI x1), some (vI 0), some (vI 0)] rfl rfl <|
  k
theorem b_X12_chargeAll_4 {d : Nat} {r : PO × PM} {I : Nat → Nat → Int} {S : PS} {a0 : Nat} {x1 x2 x3 : Int} (kt : I a0 15 ≤ x3 → Ev d mX12_chargeAll (67, [some (vR (some (22, 0, a0))), some (vI x1), some (vI x2), some (vI x3)], [], (I, S)) r) (kf : x3 < I a0 15 → Ev d mX12_chargeAll (12, [some (vR (some (22, 0, a0))), some (vI x1), some (vI x2), some (vI x3)], [], (I, S)) r) : Ev d mX12_chargeAll (4, [some (vR (some (22, 0, a0))), some (vI x1), some (vI x2), some (vI x3)], [], (I, S)) r :=
  s_iload_n rfl rfl rfl <|
  s_aload_n rfl rfl rfl <|
  s_getI rfl rfl rfl <|
  s_icmp_ge 67 rfl rfl kt kf
theorem b_X12_chargeAll_12 {d : Nat} {r : PO × PM} {I : Nat → Nat → Int} {S : PS} {a0 : Nat} {x1 x2 x3 : Int} (kt : x1 ≠ 0 → Ev d mX12_chargeAll (31, [some (vR (some (22, 0, a0))), some (vI x1), some (vI x2), some (vI x3)], [vI x2], (I, S)) r) (kf : x1 = 0 → Ev d mX12_chargeAll (17, [some (vR (some (22, 0, a0))), some (vI x1), some (vI x2), some (vI x3)], [vI x2], (I, S)) r) : Ev d mX12_chargeAll (12, [some (vR (some (22, 0, a0))), some (vI x1), some (vI x2), some (vI x3)], [], (I, S)) r :=
  s_iload_n rfl rfl rfl <|
  s_iload_n rfl rfl rfl <|
  s_if_ne 31 rfl rfl kt kf
theorem b_X12_chargeAll_17 {d : Nat} {r : PO × PM} {I : Nat → Nat → Int} {S : PS} {a0 : Nat} {x1 x2 x3 xs0 z : Int} {I1 : Nat → Nat → Int} {S1 : PS} (c : Ca d mX12_degree [vR (some (22, 0, a0)), vI x3] (I, S) (.inl (some (vI z))) (I1, S1)) (k : Ev (d + 1) mX12_chargeAll (26, [some (vR (some (22, 0, a0))), some (vI x1), some (vI x2), some (vI x3)], [vI z, vI 6, vI 10, vI xs0], (I1, S1)) r) : Ev (d + 1) mX12_chargeAll (17, [some (vR (some (22, 0, a0))), some (vI x1), some (vI x2), some (vI x3)], [vI xs0], (I, S)) r :=
  s_bipush rfl rfl <|
  s_bipush rfl rfl <|
  s_aload_n rfl rfl rfl <|
  s_iload_n rfl rfl rfl <|
  s_cvI rfl rfl rfl rfl rfl c k
theorem b_X12_chargeAll_26 {d : Nat} {r : PO × PM} {I : Nat → Nat → Int} {S : PS} {a0 : Nat} {x1 x2 x3 xs0 xs1 xs2 xs3 : Int} (ho1 : -2147483648 ≤ xs2 - xs3 ∧ xs2 - xs3 ≤ 2147483647) (ho2 : -2147483648 ≤ xs1 * (xs2 - xs3) ∧ xs1 * (xs2 - xs3) ≤ 2147483647) (k : Ev d mX12_chargeAll (59, [some (vR (some (22, 0, a0))), some (vI x1), some (vI x2), some (vI x3)], [vI (xs1 * (xs2 - xs3)), vI xs0], (I, S)) r) : Ev d mX12_chargeAll (26, [some (vR (some (22, 0, a0))), some (vI x1), some (vI x2), some (vI x3)], [vI xs3, vI xs2, vI xs1, vI xs0], (I, S)) r :=
  s_isubp rfl ho1 <|
  s_imulp rfl ho2 <|
  s_goto 59 rfl rfl k
theorem b_X12_chargeAll_31 {d : Nat} {r : PO × PM} {I : Nat → Nat → Int} {S : PS} {a0 : Nat} {x1 x2 x3 xs0 : Int} (kt : x1 ≠ 1 → Ev d mX12_chargeAll (45, [some (vR (some (22, 0, a0))), some (vI x1), some (vI x2), some (vI x3)], [vI xs0], (I, S)) r) (kf : x1 = 1 → Ev d mX12_chargeAll (36, [some (vR (some (22, 0, a0))), some (vI x1), some (vI x2), some (vI x3)], [vI xs0], (I, S)) r) : Ev d mX12_chargeAll (31, [some (vR (some (22, 0, a0))), some (vI x1), some (vI x2), some (vI x3)], [vI xs0], (I, S)) r :=
  s_iload_n rfl rfl rfl <|
  s_iconst rfl rfl <|
  s_icmp_ne 45 rfl rfl kt kf
theorem b_X12_chargeAll_36 {d : Nat} {r : PO × PM} {I : Nat → Nat → Int} {S : PS} {a0 : Nat} {x1 x2 x3 xs0 z : Int} {I1 : Nat → Nat → Int} {S1 : PS} (c : Ca d mX12_behind [vR (some (22, 0, a0)), vI 0, vI x3] (I, S) (.inl (some (vI z))) (I1, S1)) (k : Ev (d + 1) mX12_chargeAll (42, [some (vR (some (22, 0, a0))), some (vI x1), some (vI x2), some (vI x3)], [vI z, vI xs0], (I1, S1)) r) : Ev (d + 1) mX12_chargeAll (36, [some (vR (some (22, 0, a0))), some (vI x1), some (vI x2), some (vI x3)], [vI xs0], (I, S)) r :=
  s_aload_n rfl rfl rfl <|
  s_iconst rfl rfl <|
  s_iload_n rfl rfl rfl <|
  s_cvI rfl rfl rfl rfl rfl c k
theorem b_X12_chargeAll_42 {d : Nat} {r : PO × PM} {I : Nat → Nat → Int} {S : PS} {a0 : Nat} {x1 x2 x3 xs0 xs1 : Int} (k : Ev d mX12_chargeAll (59, [some (vR (some (22, 0, a0))), some (vI x1), some (vI x2), some (vI x3)], [vI xs1, vI xs0], (I, S)) r) : Ev d mX12_chargeAll (42, [some (vR (some (22, 0, a0))), some (vI x1), some (vI x2), some (vI x3)], [vI xs1, vI xs0], (I, S)) r :=
  s_goto 59 rfl rfl k
theorem b_X12_chargeAll_45 {d : Nat} {r : PO × PM} {I : Nat → Nat → Int} {S : PS} {a0 : Nat} {x1 x2 x3 xs0 z : Int} {I1 : Nat → Nat → Int} {S1 : PS} (c : Ca d mX12_behind [vR (some (22, 0, a0)), vI 0, vI x3] (I, S) (.inl (some (vI z))) (I1, S1)) (k : Ev (d + 1) mX12_chargeAll (51, [some (vR (some (22, 0, a0))), some (vI x1), some (vI x2), some (vI x3)], [vI z, vI xs0], (I1, S1)) r) : Ev (d + 1) mX12_chargeAll (45, [some (vR (some (22, 0, a0))), some (vI x1), some (vI x2), some (vI x3)], [vI xs0], (I, S)) r :=
  s_aload_n rfl rfl rfl <|
  s_iconst rfl rfl <|
  s_iload_n rfl rfl rfl <|
  s_cvI rfl rfl rfl rfl rfl c k
theorem b_X12_chargeAll_51 {d : Nat} {r : PO × PM} {I : Nat → Nat → Int} {S : PS} {a0 : Nat} {x1 x2 x3 xs0 xs1 : Int} (kt : xs1 ≤ 0 → Ev d mX12_chargeAll (58, [some (vR (some (22, 0, a0))), some (vI x1), some (vI x2), some (vI x3)], [vI xs0], (I, S)) r) (kf : 0 < xs1 → Ev d mX12_chargeAll (54, [some (vR (some (22, 0, a0))), some (vI x1), some (vI x2), some (vI x3)], [vI xs0], (I, S)) r) : Ev d mX12_chargeAll (51, [some (vR (some (22, 0, a0))), some (vI x1), some (vI x2), some (vI x3)], [vI xs1, vI xs0], (I, S)) r :=
  s_if_le 58 rfl rfl kt kf
theorem b_X12_chargeAll_54 {d : Nat} {r : PO × PM} {I : Nat → Nat → Int} {S : PS} {a0 : Nat} {x1 x2 x3 xs0 : Int} (k : Ev d mX12_chargeAll (59, [some (vR (some (22, 0, a0))), some (vI x1), some (vI x2), some (vI x3)], [vI 1, vI xs0], (I, S)) r) : Ev d mX12_chargeAll (54, [some (vR (some (22, 0, a0))), some (vI x1), some (vI x2), some (vI x3)], [vI xs0], (I, S)) r :=
  s_iconst rfl rfl <|
  s_goto 59 rfl rfl k
theorem b_X12_chargeAll_58 {d : Nat} {r : PO × PM} {I : Nat → Nat → Int} {S : PS} {a0 : Nat} {x1 x2 x3 xs0 : Int} (k : Ev d mX12_chargeAll (59, [some (vR (some (22, 0, a0))), some (vI x1), some (vI x2), some (vI x3)], [vI 0, vI xs0], (I, S)) r) : Ev d mX12_chargeAll (58, [some (vR (some (22, 0, a0))), some (vI x1), some (vI x2), some (vI x3)], [vI xs0], (I, S)) r :=
  s_iconst rfl rfl <|
  k
theorem b_X12_chargeAll_59 {d : Nat} {r : PO × PM} {I : Nat → Nat → Int} {S : PS} {a0 : Nat} {x1 x2 x3 xs0 xs1 : Int} (ho1 : -2147483648 ≤ xs0 + xs1 ∧ xs0 + xs1 ≤ 2147483647) (ho2 : -2147483648 ≤ x3 + 1 ∧ x3 + 1 ≤ 2147483647) (k : Ev d mX12_chargeAll (4, [some (vR (some (22, 0, a0))), some (vI x1), some (vI (xs0 + xs1)), some (vI (x3 + 1))], [], (I, S)) r) : Ev d mX12_chargeAll (59, [some (vR (some (22, 0, a0))), some (vI x1), some (vI x2), some (vI x3)], [vI xs1, vI xs0], (I, S)) r :=
  s_iaddp rfl ho1 <|
  s_istore_n [some (vR (some (22, 0, a0))), some (vI x1), some (vI (xs0 + xs1)), some (vI x3)] rfl rfl <|
  s_iincp [some (vR (some (22, 0, a0))), some (vI x1), some (vI (xs0 + xs1)), some (vI (x3 + 1))] rfl rfl ho2 rfl <|
  s_goto 4 rfl rfl k
theorem b_X12_chargeAll_67 {d : Nat} {I : Nat → Nat → Int} {S : PS} {a0 : Nat} {x1 x2 x3 : Int} : Ev d mX12_chargeAll (67, [some (vR (some (22, 0, a0))), some (vI x1), some (vI x2), some (vI x3)], [], (I, S)) (.inl (some (vI x2)), (I, S)) :=
  s_iload_n rfl rfl rfl <|
  s_ret rfl rfl
theorem b_X12_count_0 {d : Nat} {r : PO × PM} {I : Nat → Nat → Int} {S : PS} {a0 : Nat} {x1 z : Int} {I1 : Nat → Nat → Int} {S1 : PS} (c : Ca d mX12_within [vI x1, vI 0, vI 16] ((up2 I a0 0 0), S) (.inl (some (vI z))) (I1, S1)) (k : Ev (d + 1) mX12_count (13, [some (vR (some (22, 0, a0))), some (vI x1)], [vI z, vR (some (22, 0, a0))], (I1, S1)) r) : Ev (d + 1) mX12_count (0, [some (vR (some (22, 0, a0))), some (vI x1)], [], (I, S)) r :=
  s_aload_n rfl rfl rfl <|
  s_iconst rfl rfl <|
  s_putI rfl rfl rfl <|
  s_aload_n rfl rfl rfl <|
  s_iload_n rfl rfl rfl <|
  s_iconst rfl rfl <|
  s_bipush rfl rfl <|
  s_csI rfl rfl rfl rfl rfl rfl c k
theorem b_X12_count_13 {d : Nat} {r : PO × PM} {I : Nat → Nat → Int} {S : PS} {a0 as0 : Nat} {x1 xs1 z : Int} {I1 : Nat → Nat → Int} {S1 : PS} (c : Ca d mX12_right [vR (some (22, 0, as0)), vI xs1, vI 1] (I, S) (.inl (some (vI z))) (I1, S1)) (k : Ev (d + 1) mX12_count (17, [some (vR (some (22, 0, a0))), some (vI x1)], [vI z], (I1, S1)) r) : Ev (d + 1) mX12_count (13, [some (vR (some (22, 0, a0))), some (vI x1)], [vI xs1, vR (some (22, 0, as0))], (I, S)) r :=
  s_iconst rfl rfl <|
  s_cvI rfl rfl rfl rfl rfl c k
theorem b_X12_count_17 {d : Nat} {r : PO × PM} {I : Nat → Nat → Int} {S : PS} {a0 : Nat} {x1 xs0 : Int} (kt : xs0 ≠ 0 → Ev d mX12_count (22, [some (vR (some (22, 0, a0))), some (vI x1)], [], (I, S)) r) (kf : xs0 = 0 → Ev d mX12_count (20, [some (vR (some (22, 0, a0))), some (vI x1)], [], (I, S)) r) : Ev d mX12_count (17, [some (vR (some (22, 0, a0))), some (vI x1)], [vI xs0], (I, S)) r :=
  s_if_ne 22 rfl rfl kt kf
theorem b_X12_count_20 {d : Nat} {I : Nat → Nat → Int} {S : PS} {a0 : Nat} {x1 : Int} : Ev d mX12_count (20, [some (vR (some (22, 0, a0))), some (vI x1)], [], (I, S)) (.inl (some (vI 0)), (I, S)) :=
  s_iconst rfl rfl <|
  s_ret rfl rfl
theorem b_X12_count_22 {d : Nat} {r : PO × PM} {I : Nat → Nat → Int} {S : PS} {a0 : Nat} {x1 : Int} (k0 : x1 = 0 → Ev d mX12_count (92, [some (vR (some (22, 0, a0))), some (vI x1)], [], (I, S)) r) (k1 : x1 = 1 → Ev d mX12_count (97, [some (vR (some (22, 0, a0))), some (vI x1)], [], (I, S)) r) (k2 : x1 = 2 → Ev d mX12_count (102, [some (vR (some (22, 0, a0))), some (vI x1)], [], (I, S)) r) (k3 : x1 = 3 → Ev d mX12_count (107, [some (vR (some (22, 0, a0))), some (vI x1)], [], (I, S)) r) (k4 : x1 = 4 → Ev d mX12_count (113, [some (vR (some (22, 0, a0))), some (vI x1)], [], (I, S)) r) (k5 : x1 = 5 → Ev d mX12_count (119, [some (vR (some (22, 0, a0))), some (vI x1)], [], (I, S)) r) (k6 : x1 = 6 → Ev d mX12_count (125, [some (vR (some (22, 0, a0))), some (vI x1)], [], (I, S)) r) (k7 : x1 = 7 → Ev d mX12_count (131, [some (vR (some (22, 0, a0))), some (vI x1)], [], (I, S)) r) (k8 : x1 = 8 → Ev d mX12_count (136, [some (vR (some (22, 0, a0))), some (vI x1)], [], (I, S)) r) (k9 : x1 = 9 → Ev d mX12_count (141, [some (vR (some (22, 0, a0))), some (vI x1)], [], (I, S)) r) (k10 : x1 = 10 → Ev d mX12_count (143, [some (vR (some (22, 0, a0))), some (vI x1)], [], (I, S)) r) (k11 : x1 = 11 → Ev d mX12_count (148, [some (vR (some (22, 0, a0))), some (vI x1)], [], (I, S)) r) (k12 : x1 = 12 → Ev d mX12_count (153, [some (vR (some (22, 0, a0))), some (vI x1)], [], (I, S)) r) (k13 : x1 = 13 → Ev d mX12_count (158, [some (vR (some (22, 0, a0))), some (vI x1)], [], (I, S)) r) (kd : ¬(0 ≤ x1 ∧ x1 ≤ 13) → Ev d mX12_count (163, [some (vR (some (22, 0, a0))), some (vI x1)], [], (I, S)) r) : Ev d mX12_count (22, [some (vR (some (22, 0, a0))), some (vI x1)], [], (I, S)) r :=
  s_iload_n rfl rfl rfl <|
  s_sw 163 rfl (by decide) (fun c => kd c) (fun j hj => by
  match j, hj with
  | 0, _ => exact fun c => k0 c
  | 1, _ => exact fun c => k1 c
  | 2, _ => exact fun c => k2 c
  | 3, _ => exact fun c => k3 c
  | 4, _ => exact fun c => k4 c
  | 5, _ => exact fun c => k5 c
  | 6, _ => exact fun c => k6 c
  | 7, _ => exact fun c => k7 c
  | 8, _ => exact fun c => k8 c
  | 9, _ => exact fun c => k9 c
  | 10, _ => exact fun c => k10 c
  | 11, _ => exact fun c => k11 c
  | 12, _ => exact fun c => k12 c
  | 13, _ => exact fun c => k13 c
  | j + 14, hj => exact absurd hj (by simp))
theorem b_X12_count_92 {d : Nat} {I : Nat → Nat → Int} {S : PS} {a0 : Nat} {x1 : Int} : Ev d mX12_count (92, [some (vR (some (22, 0, a0))), some (vI x1)], [], (I, S)) (.inl (some (vI (I a0 13))), (I, S)) :=
  s_aload_n rfl rfl rfl <|
  s_getI rfl rfl rfl <|
  s_ret rfl rfl
theorem b_X12_count_97 {d : Nat} {I : Nat → Nat → Int} {S : PS} {a0 : Nat} {x1 : Int} : Ev d mX12_count (97, [some (vR (some (22, 0, a0))), some (vI x1)], [], (I, S)) (.inl (some (vI (I a0 14))), (I, S)) :=
  s_aload_n rfl rfl rfl <|
  s_getI rfl rfl rfl <|
  s_ret rfl rfl
theorem b_X12_count_102 {d : Nat} {I : Nat → Nat → Int} {S : PS} {a0 : Nat} {x1 : Int} : Ev d mX12_count (102, [some (vR (some (22, 0, a0))), some (vI x1)], [], (I, S)) (.inl (some (vI (I a0 15))), (I, S)) :=
  s_aload_n rfl rfl rfl <|
  s_getI rfl rfl rfl <|
  s_ret rfl rfl
theorem b_X12_count_107 {d : Nat} {r : PO × PM} {I : Nat → Nat → Int} {S : PS} {a0 : Nat} {x1 z : Int} {I1 : Nat → Nat → Int} {S1 : PS} (c : Ca d mX12_painted [vR (some (22, 0, a0)), vI 0] (I, S) (.inl (some (vI z))) (I1, S1)) (k : Ev (d + 1) mX12_count (112, [some (vR (some (22, 0, a0))), some (vI x1)], [vI z], (I1, S1)) r) : Ev (d + 1) mX12_count (107, [some (vR (some (22, 0, a0))), some (vI x1)], [], (I, S)) r :=
  s_aload_n rfl rfl rfl <|
  s_iconst rfl rfl <|
  s_cvI rfl rfl rfl rfl rfl c k
theorem b_X12_count_112 {d : Nat} {I : Nat → Nat → Int} {S : PS} {a0 : Nat} {x1 xs0 : Int} : Ev d mX12_count (112, [some (vR (some (22, 0, a0))), some (vI x1)], [vI xs0], (I, S)) (.inl (some (vI xs0)), (I, S)) :=
  s_ret rfl rfl
theorem b_X12_count_113 {d : Nat} {r : PO × PM} {I : Nat → Nat → Int} {S : PS} {a0 : Nat} {x1 z : Int} {I1 : Nat → Nat → Int} {S1 : PS} (c : Ca d mX12_chargeAll [vR (some (22, 0, a0)), vI 0] (I, S) (.inl (some (vI z))) (I1, S1)) (k : Ev (d + 1) mX12_count (118, [some (vR (some (22, 0, a0))), some (vI x1)], [vI z], (I1, S1)) r) : Ev (d + 1) mX12_count (113, [some (vR (some (22, 0, a0))), some (vI x1)], [], (I, S)) r :=
  s_aload_n rfl rfl rfl <|
  s_iconst rfl rfl <|
  s_cvI rfl rfl rfl rfl rfl c k
theorem b_X12_count_118 {d : Nat} {I : Nat → Nat → Int} {S : PS} {a0 : Nat} {x1 xs0 : Int} : Ev d mX12_count (118, [some (vR (some (22, 0, a0))), some (vI x1)], [vI xs0], (I, S)) (.inl (some (vI xs0)), (I, S)) :=
  s_ret rfl rfl
theorem b_X12_count_119 {d : Nat} {r : PO × PM} {I : Nat → Nat → Int} {S : PS} {a0 : Nat} {x1 z : Int} {I1 : Nat → Nat → Int} {S1 : PS} (c : Ca d mX12_chargeAll [vR (some (22, 0, a0)), vI 1] (I, S) (.inl (some (vI z))) (I1, S1)) (k : Ev (d + 1) mX12_count (124, [some (vR (some (22, 0, a0))), some (vI x1)], [vI z], (I1, S1)) r) : Ev (d + 1) mX12_count (119, [some (vR (some (22, 0, a0))), some (vI x1)], [], (I, S)) r :=
  s_aload_n rfl rfl rfl <|
  s_iconst rfl rfl <|
  s_cvI rfl rfl rfl rfl rfl c k
theorem b_X12_count_124 {d : Nat} {I : Nat → Nat → Int} {S : PS} {a0 : Nat} {x1 xs0 : Int} : Ev d mX12_count (124, [some (vR (some (22, 0, a0))), some (vI x1)], [vI xs0], (I, S)) (.inl (some (vI xs0)), (I, S)) :=
  s_ret rfl rfl
theorem b_X12_count_125 {d : Nat} {r : PO × PM} {I : Nat → Nat → Int} {S : PS} {a0 : Nat} {x1 z : Int} {I1 : Nat → Nat → Int} {S1 : PS} (c : Ca d mX12_chargeAll [vR (some (22, 0, a0)), vI 2] (I, S) (.inl (some (vI z))) (I1, S1)) (k : Ev (d + 1) mX12_count (130, [some (vR (some (22, 0, a0))), some (vI x1)], [vI z], (I1, S1)) r) : Ev (d + 1) mX12_count (125, [some (vR (some (22, 0, a0))), some (vI x1)], [], (I, S)) r :=
  s_aload_n rfl rfl rfl <|
  s_iconst rfl rfl <|
  s_cvI rfl rfl rfl rfl rfl c k
theorem b_X12_count_130 {d : Nat} {I : Nat → Nat → Int} {S : PS} {a0 : Nat} {x1 xs0 : Int} : Ev d mX12_count (130, [some (vR (some (22, 0, a0))), some (vI x1)], [vI xs0], (I, S)) (.inl (some (vI xs0)), (I, S)) :=
  s_ret rfl rfl
theorem b_X12_count_131 {d : Nat} {r : PO × PM} {I : Nat → Nat → Int} {S : PS} {a0 : Nat} {x1 z : Int} {I1 : Nat → Nat → Int} {S1 : PS} (c : Ca d mX12_openOnes [vR (some (22, 0, a0))] (I, S) (.inl (some (vI z))) (I1, S1)) (k : Ev (d + 1) mX12_count (135, [some (vR (some (22, 0, a0))), some (vI x1)], [vI z], (I1, S1)) r) : Ev (d + 1) mX12_count (131, [some (vR (some (22, 0, a0))), some (vI x1)], [], (I, S)) r :=
  s_aload_n rfl rfl rfl <|
  s_cvI rfl rfl rfl rfl rfl c k
theorem b_X12_count_135 {d : Nat} {I : Nat → Nat → Int} {S : PS} {a0 : Nat} {x1 xs0 : Int} : Ev d mX12_count (135, [some (vR (some (22, 0, a0))), some (vI x1)], [vI xs0], (I, S)) (.inl (some (vI xs0)), (I, S)) :=
  s_ret rfl rfl
theorem b_X12_count_136 {d : Nat} {I : Nat → Nat → Int} {S : PS} {a0 : Nat} {x1 : Int} : Ev d mX12_count (136, [some (vR (some (22, 0, a0))), some (vI x1)], [], (I, S)) (.inl (some (vI (I a0 48))), (I, S)) :=
  s_aload_n rfl rfl rfl <|
  s_getI rfl rfl rfl <|
  s_ret rfl rfl
theorem b_X12_count_141 {d : Nat} {I : Nat → Nat → Int} {S : PS} {a0 : Nat} {x1 : Int} : Ev d mX12_count (141, [some (vR (some (22, 0, a0))), some (vI x1)], [], (I, S)) (.inl (some (vI 0)), (I, S)) :=
  s_iconst rfl rfl <|
  s_ret rfl rfl
theorem b_X12_count_143 {d : Nat} {I : Nat → Nat → Int} {S : PS} {a0 : Nat} {x1 : Int} : Ev d mX12_count (143, [some (vR (some (22, 0, a0))), some (vI x1)], [], (I, S)) (.inl (some (vI (I a0 49))), (I, S)) :=
  s_aload_n rfl rfl rfl <|
  s_getI rfl rfl rfl <|
  s_ret rfl rfl
theorem b_X12_count_148 {d : Nat} {I : Nat → Nat → Int} {S : PS} {a0 : Nat} {x1 : Int} : Ev d mX12_count (148, [some (vR (some (22, 0, a0))), some (vI x1)], [], (I, S)) (.inl (some (vI (I a0 41))), (I, S)) :=
  s_aload_n rfl rfl rfl <|
  s_getI rfl rfl rfl <|
  s_ret rfl rfl
theorem b_X12_count_153 {d : Nat} {I : Nat → Nat → Int} {S : PS} {a0 : Nat} {x1 : Int} : Ev d mX12_count (153, [some (vR (some (22, 0, a0))), some (vI x1)], [], (I, S)) (.inl (some (vI (I a0 56))), (I, S)) :=
  s_aload_n rfl rfl rfl <|
  s_getI rfl rfl rfl <|
  s_ret rfl rfl
theorem b_X12_count_158 {d : Nat} {I : Nat → Nat → Int} {S : PS} {a0 : Nat} {x1 : Int} : Ev d mX12_count (158, [some (vR (some (22, 0, a0))), some (vI x1)], [], (I, S)) (.inl (some (vI (I a0 2))), (I, S)) :=
  s_aload_n rfl rfl rfl <|
  s_getI rfl rfl rfl <|
  s_ret rfl rfl
theorem b_X12_count_163 {d : Nat} {I : Nat → Nat → Int} {S : PS} {a0 p1 q1 : Nat} {x1 : Int} (hr1 : S.1 a0 5 = some (0, q1, p1)) (ho2 : -2147483648 ≤ x1 - 14 ∧ x1 - 14 ≤ 2147483647) (hi3 : 0 ≤ x1 - 14 ∧ x1 - 14 < (q1 : Nat)) : Ev d mX12_count (163, [some (vR (some (22, 0, a0))), some (vI x1)], [], (I, S)) (.inl (some (vI (I p1 (x1 - 14).toNat))), (I, S)) :=
  s_aload_n rfl rfl rfl <|
  s_getR rfl rfl rfl hr1 <|
  s_iload_n rfl rfl rfl <|
  s_bipush rfl rfl <|
  s_isubp rfl ho2 <|
  s_iald rfl rfl hi3 <|
  s_ret rfl rfl
theorem b_X12_isSpot_0 {d : Nat} {r : PO × PM} {I : Nat → Nat → Int} {S : PS} {a0 : Nat} {x1 : Int} (kt : x1 < 0 → Ev d mX12_isSpot (17, [some (vR (some (22, 0, a0))), some (vI x1)], [vR (some (22, 0, a0))], (I, S)) r) (kf : 0 ≤ x1 → Ev d mX12_isSpot (5, [some (vR (some (22, 0, a0))), some (vI x1)], [vR (some (22, 0, a0))], (I, S)) r) : Ev d mX12_isSpot (0, [some (vR (some (22, 0, a0))), some (vI x1)], [], (I, S)) r :=
  s_aload_n rfl rfl rfl <|
  s_iload_n rfl rfl rfl <|
  s_if_lt 17 rfl rfl kt kf
theorem b_X12_isSpot_5 {d : Nat} {r : PO × PM} {I : Nat → Nat → Int} {S : PS} {a0 as0 : Nat} {x1 : Int} (kt : I a0 15 ≤ x1 → Ev d mX12_isSpot (17, [some (vR (some (22, 0, a0))), some (vI x1)], [vR (some (22, 0, as0))], (I, S)) r) (kf : x1 < I a0 15 → Ev d mX12_isSpot (13, [some (vR (some (22, 0, a0))), some (vI x1)], [vR (some (22, 0, as0))], (I, S)) r) : Ev d mX12_isSpot (5, [some (vR (some (22, 0, a0))), some (vI x1)], [vR (some (22, 0, as0))], (I, S)) r :=
  s_iload_n rfl rfl rfl <|
  s_aload_n rfl rfl rfl <|
  s_getI rfl rfl rfl <|
  s_icmp_ge 17 rfl rfl kt kf
theorem b_X12_isSpot_13 {d : Nat} {r : PO × PM} {I : Nat → Nat → Int} {S : PS} {a0 as0 : Nat} {x1 : Int} (k : Ev d mX12_isSpot (18, [some (vR (some (22, 0, a0))), some (vI x1)], [vI 1, vR (some (22, 0, as0))], (I, S)) r) : Ev d mX12_isSpot (13, [some (vR (some (22, 0, a0))), some (vI x1)], [vR (some (22, 0, as0))], (I, S)) r :=
  s_iconst rfl rfl <|
  s_goto 18 rfl rfl k
theorem b_X12_isSpot_17 {d : Nat} {r : PO × PM} {I : Nat → Nat → Int} {S : PS} {a0 as0 : Nat} {x1 : Int} (k : Ev d mX12_isSpot (18, [some (vR (some (22, 0, a0))), some (vI x1)], [vI 0, vR (some (22, 0, as0))], (I, S)) r) : Ev d mX12_isSpot (17, [some (vR (some (22, 0, a0))), some (vI x1)], [vR (some (22, 0, as0))], (I, S)) r :=
  s_iconst rfl rfl <|
  k
theorem b_X12_isSpot_18 {d : Nat} {r : PO × PM} {I : Nat → Nat → Int} {S : PS} {a0 as0 : Nat} {x1 xs1 z : Int} {I1 : Nat → Nat → Int} {S1 : PS} (c : Ca d mX12_right [vR (some (22, 0, as0)), vI xs1, vI 1] (I, S) (.inl (some (vI z))) (I1, S1)) (k : Ev (d + 1) mX12_isSpot (22, [some (vR (some (22, 0, a0))), some (vI x1)], [vI z], (I1, S1)) r) : Ev (d + 1) mX12_isSpot (18, [some (vR (some (22, 0, a0))), some (vI x1)], [vI xs1, vR (some (22, 0, as0))], (I, S)) r :=
  s_iconst rfl rfl <|
  s_cvI rfl rfl rfl rfl rfl c k
theorem b_X12_isSpot_22 {d : Nat} {I : Nat → Nat → Int} {S : PS} {a0 : Nat} {x1 xs0 : Int} (hb1 : xs0 = 0 ∨ xs0 = 1) : Ev d mX12_isSpot (22, [some (vR (some (22, 0, a0))), some (vI x1)], [vI xs0], (I, S)) (.inl (some (vI xs0)), (I, S)) :=
  s_retz rfl rfl hb1
theorem b_X12_spot_0 {d : Nat} {r : PO × PM} {I : Nat → Nat → Int} {S : PS} {a0 : Nat} {x1 x2 z : Int} {I1 : Nat → Nat → Int} {S1 : PS} (c : Ca d mX12_isSpot [vR (some (22, 0, a0)), vI x1] ((up2 I a0 0 0), S) (.inl (some (vI z))) (I1, S1)) (k : Ev (d + 1) mX12_spot (10, [some (vR (some (22, 0, a0))), some (vI x1), some (vI x2)], [vI z], (I1, S1)) r) : Ev (d + 1) mX12_spot (0, [some (vR (some (22, 0, a0))), some (vI x1), some (vI x2)], [], (I, S)) r :=
  s_aload_n rfl rfl rfl <|
  s_iconst rfl rfl <|
  s_putI rfl rfl rfl <|
  s_aload_n rfl rfl rfl <|
  s_iload_n rfl rfl rfl <|
  s_cvI rfl rfl rfl rfl rfl c k
theorem b_X12_spot_10 {d : Nat} {r : PO × PM} {I : Nat → Nat → Int} {S : PS} {a0 : Nat} {x1 x2 xs0 : Int} (kt : xs0 = 0 → Ev d mX12_spot (23, [some (vR (some (22, 0, a0))), some (vI x1), some (vI x2)], [], (I, S)) r) (kf : xs0 ≠ 0 → Ev d mX12_spot (13, [some (vR (some (22, 0, a0))), some (vI x1), some (vI x2)], [], (I, S)) r) : Ev d mX12_spot (10, [some (vR (some (22, 0, a0))), some (vI x1), some (vI x2)], [vI xs0], (I, S)) r :=
  s_if_eq 23 rfl rfl kt kf
theorem b_X12_spot_13 {d : Nat} {r : PO × PM} {I : Nat → Nat → Int} {S : PS} {a0 : Nat} {x1 x2 z : Int} {I1 : Nat → Nat → Int} {S1 : PS} (c : Ca d mX12_isWhat [vR (some (22, 0, a0)), vI x2, vI 6] (I, S) (.inl (some (vI z))) (I1, S1)) (k : Ev (d + 1) mX12_spot (20, [some (vR (some (22, 0, a0))), some (vI x1), some (vI x2)], [vI z], (I1, S1)) r) : Ev (d + 1) mX12_spot (13, [some (vR (some (22, 0, a0))), some (vI x1), some (vI x2)], [], (I, S)) r :=
  s_aload_n rfl rfl rfl <|
  s_iload_n rfl rfl rfl <|
  s_bipush rfl rfl <|
  s_cvI rfl rfl rfl rfl rfl c k
theorem b_X12_spot_20 {d : Nat} {r : PO × PM} {I : Nat → Nat → Int} {S : PS} {a0 : Nat} {x1 x2 xs0 : Int} (kt : xs0 ≠ 0 → Ev d mX12_spot (25, [some (vR (some (22, 0, a0))), some (vI x1), some (vI x2)], [], (I, S)) r) (kf : xs0 = 0 → Ev d mX12_spot (23, [some (vR (some (22, 0, a0))), some (vI x1), some (vI x2)], [], (I, S)) r) : Ev d mX12_spot (20, [some (vR (some (22, 0, a0))), some (vI x1), some (vI x2)], [vI xs0], (I, S)) r :=
  s_if_ne 25 rfl rfl kt kf
theorem b_X12_spot_23 {d : Nat} {I : Nat → Nat → Int} {S : PS} {a0 : Nat} {x1 x2 : Int} : Ev d mX12_spot (23, [some (vR (some (22, 0, a0))), some (vI x1), some (vI x2)], [], (I, S)) (.inl (some (vI 0)), (I, S)) :=
  s_iconst rfl rfl <|
  s_ret rfl rfl
theorem b_X12_spot_25 {d : Nat} {r : PO × PM} {I : Nat → Nat → Int} {S : PS} {a0 : Nat} {x1 x2 : Int} (k0 : x2 = 0 → Ev d mX12_spot (64, [some (vR (some (22, 0, a0))), some (vI x1), some (vI x2)], [], (I, S)) r) (k1 : x2 = 1 → Ev d mX12_spot (70, [some (vR (some (22, 0, a0))), some (vI x1), some (vI x2)], [], (I, S)) r) (k2 : x2 = 2 → Ev d mX12_spot (76, [some (vR (some (22, 0, a0))), some (vI x1), some (vI x2)], [], (I, S)) r) (k3 : x2 = 3 → Ev d mX12_spot (83, [some (vR (some (22, 0, a0))), some (vI x1), some (vI x2)], [], (I, S)) r) (k4 : x2 = 4 → Ev d mX12_spot (90, [some (vR (some (22, 0, a0))), some (vI x1), some (vI x2)], [], (I, S)) r) (k5 : x2 = 5 → Ev d mX12_spot (102, [some (vR (some (22, 0, a0))), some (vI x1), some (vI x2)], [], (I, S)) r) (kd : ¬(0 ≤ x2 ∧ x2 ≤ 5) → Ev d mX12_spot (109, [some (vR (some (22, 0, a0))), some (vI x1), some (vI x2)], [], (I, S)) r) : Ev d mX12_spot (25, [some (vR (some (22, 0, a0))), some (vI x1), some (vI x2)], [], (I, S)) r :=
  s_iload_n rfl rfl rfl <|
  s_sw 109 rfl (by decide) (fun c => kd c) (fun j hj => by
  match j, hj with
  | 0, _ => exact fun c => k0 c
  | 1, _ => exact fun c => k1 c
  | 2, _ => exact fun c => k2 c
  | 3, _ => exact fun c => k3 c
  | 4, _ => exact fun c => k4 c
  | 5, _ => exact fun c => k5 c
  | j + 6, hj => exact absurd hj (by simp))
theorem b_X12_spot_64 {d : Nat} {r : PO × PM} {I : Nat → Nat → Int} {S : PS} {a0 : Nat} {x1 x2 z : Int} {I1 : Nat → Nat → Int} {S1 : PS} (c : Ca d mX12_degree [vR (some (22, 0, a0)), vI x1] (I, S) (.inl (some (vI z))) (I1, S1)) (k : Ev (d + 1) mX12_spot (69, [some (vR (some (22, 0, a0))), some (vI x1), some (vI x2)], [vI z], (I1, S1)) r) : Ev (d + 1) mX12_spot (64, [some (vR (some (22, 0, a0))), some (vI x1), some (vI x2)], [], (I, S)) r :=
  s_aload_n rfl rfl rfl <|
  s_iload_n rfl rfl rfl <|
  s_cvI rfl rfl rfl rfl rfl c k
theorem b_X12_spot_69 {d : Nat} {I : Nat → Nat → Int} {S : PS} {a0 : Nat} {x1 x2 xs0 : Int} : Ev d mX12_spot (69, [some (vR (some (22, 0, a0))), some (vI x1), some (vI x2)], [vI xs0], (I, S)) (.inl (some (vI xs0)), (I, S)) :=
  s_ret rfl rfl
theorem b_X12_spot_70 {d : Nat} {r : PO × PM} {I : Nat → Nat → Int} {S : PS} {a0 : Nat} {x1 x2 z : Int} {I1 : Nat → Nat → Int} {S1 : PS} (c : Ca d mX12_nearOnes [vR (some (22, 0, a0)), vI x1] (I, S) (.inl (some (vI z))) (I1, S1)) (k : Ev (d + 1) mX12_spot (75, [some (vR (some (22, 0, a0))), some (vI x1), some (vI x2)], [vI z], (I1, S1)) r) : Ev (d + 1) mX12_spot (70, [some (vR (some (22, 0, a0))), some (vI x1), some (vI x2)], [], (I, S)) r :=
  s_aload_n rfl rfl rfl <|
  s_iload_n rfl rfl rfl <|
  s_cvI rfl rfl rfl rfl rfl c k
theorem b_X12_spot_75 {d : Nat} {I : Nat → Nat → Int} {S : PS} {a0 : Nat} {x1 x2 xs0 : Int} : Ev d mX12_spot (75, [some (vR (some (22, 0, a0))), some (vI x1), some (vI x2)], [vI xs0], (I, S)) (.inl (some (vI xs0)), (I, S)) :=
  s_ret rfl rfl
theorem b_X12_spot_76 {d : Nat} {I : Nat → Nat → Int} {S : PS} {a0 p1 q1 : Nat} {x1 x2 : Int} (hr1 : S.1 a0 39 = some (0, q1, p1)) (hi2 : 0 ≤ x1 ∧ x1 < (q1 : Nat)) : Ev d mX12_spot (76, [some (vR (some (22, 0, a0))), some (vI x1), some (vI x2)], [], (I, S)) (.inl (some (vI (I p1 x1.toNat))), (I, S)) :=
  s_aload_n rfl rfl rfl <|
  s_getR rfl rfl rfl hr1 <|
  s_iload_n rfl rfl rfl <|
  s_iald rfl rfl hi2 <|
  s_ret rfl rfl
theorem b_X12_spot_83 {d : Nat} {r : PO × PM} {I : Nat → Nat → Int} {S : PS} {a0 : Nat} {x1 x2 z : Int} {I1 : Nat → Nat → Int} {S1 : PS} (c : Ca d mX12_freeFor [vR (some (22, 0, a0)), vI 0, vI x1] (I, S) (.inl (some (vI z))) (I1, S1)) (k : Ev (d + 1) mX12_spot (89, [some (vR (some (22, 0, a0))), some (vI x1), some (vI x2)], [vI z], (I1, S1)) r) : Ev (d + 1) mX12_spot (83, [some (vR (some (22, 0, a0))), some (vI x1), some (vI x2)], [], (I, S)) r :=
  s_aload_n rfl rfl rfl <|
  s_iconst rfl rfl <|
  s_iload_n rfl rfl rfl <|
  s_cvI rfl rfl rfl rfl rfl c k
theorem b_X12_spot_89 {d : Nat} {I : Nat → Nat → Int} {S : PS} {a0 : Nat} {x1 x2 xs0 : Int} : Ev d mX12_spot (89, [some (vR (some (22, 0, a0))), some (vI x1), some (vI x2)], [vI xs0], (I, S)) (.inl (some (vI xs0)), (I, S)) :=
  s_ret rfl rfl
theorem b_X12_spot_90 {d : Nat} {r : PO × PM} {I : Nat → Nat → Int} {S : PS} {a0 : Nat} {x1 x2 z : Int} {I1 : Nat → Nat → Int} {S1 : PS} (c : Ca d mX12_degree [vR (some (22, 0, a0)), vI x1] (I, S) (.inl (some (vI z))) (I1, S1)) (k : Ev (d + 1) mX12_spot (99, [some (vR (some (22, 0, a0))), some (vI x1), some (vI x2)], [vI z, vI 6, vI 10], (I1, S1)) r) : Ev (d + 1) mX12_spot (90, [some (vR (some (22, 0, a0))), some (vI x1), some (vI x2)], [], (I, S)) r :=
  s_bipush rfl rfl <|
  s_bipush rfl rfl <|
  s_aload_n rfl rfl rfl <|
  s_iload_n rfl rfl rfl <|
  s_cvI rfl rfl rfl rfl rfl c k
theorem b_X12_spot_99 {d : Nat} {I : Nat → Nat → Int} {S : PS} {a0 : Nat} {x1 x2 xs0 xs1 xs2 : Int} (ho1 : -2147483648 ≤ xs1 - xs2 ∧ xs1 - xs2 ≤ 2147483647) (ho2 : -2147483648 ≤ xs0 * (xs1 - xs2) ∧ xs0 * (xs1 - xs2) ≤ 2147483647) : Ev d mX12_spot (99, [some (vR (some (22, 0, a0))), some (vI x1), some (vI x2)], [vI xs2, vI xs1, vI xs0], (I, S)) (.inl (some (vI (xs0 * (xs1 - xs2)))), (I, S)) :=
  s_isubp rfl ho1 <|
  s_imulp rfl ho2 <|
  s_ret rfl rfl
theorem b_X12_spot_102 {d : Nat} {r : PO × PM} {I : Nat → Nat → Int} {S : PS} {a0 : Nat} {x1 x2 z : Int} {I1 : Nat → Nat → Int} {S1 : PS} (c : Ca d mX12_behind [vR (some (22, 0, a0)), vI 0, vI x1] (I, S) (.inl (some (vI z))) (I1, S1)) (k : Ev (d + 1) mX12_spot (108, [some (vR (some (22, 0, a0))), some (vI x1), some (vI x2)], [vI z], (I1, S1)) r) : Ev (d + 1) mX12_spot (102, [some (vR (some (22, 0, a0))), some (vI x1), some (vI x2)], [], (I, S)) r :=
  s_aload_n rfl rfl rfl <|
  s_iconst rfl rfl <|
  s_iload_n rfl rfl rfl <|
  s_cvI rfl rfl rfl rfl rfl c k
theorem b_X12_spot_108 {d : Nat} {I : Nat → Nat → Int} {S : PS} {a0 : Nat} {x1 x2 xs0 : Int} : Ev d mX12_spot (108, [some (vR (some (22, 0, a0))), some (vI x1), some (vI x2)], [vI xs0], (I, S)) (.inl (some (vI xs0)), (I, S)) :=
  s_ret rfl rfl
theorem b_X12_spot_109 {d : Nat} {r : PO × PM} {I : Nat → Nat → Int} {S : PS} {a0 : Nat} {x1 x2 z : Int} {I1 : Nat → Nat → Int} {S1 : PS} (c : Ca d mX12_holdsAt [vR (some (22, 0, a0)), vI x1] (I, S) (.inl (some (vI z))) (I1, S1)) (k : Ev (d + 1) mX12_spot (114, [some (vR (some (22, 0, a0))), some (vI x1), some (vI x2)], [vI z], (I1, S1)) r) : Ev (d + 1) mX12_spot (109, [some (vR (some (22, 0, a0))), some (vI x1), some (vI x2)], [], (I, S)) r :=
  s_aload_n rfl rfl rfl <|
  s_iload_n rfl rfl rfl <|
  s_cvI rfl rfl rfl rfl rfl c k
theorem b_X12_spot_114 {d : Nat} {I : Nat → Nat → Int} {S : PS} {a0 : Nat} {x1 x2 xs0 : Int} : Ev d mX12_spot (114, [some (vR (some (22, 0, a0))), some (vI x1), some (vI x2)], [vI xs0], (I, S)) (.inl (some (vI xs0)), (I, S)) :=
  s_ret rfl rfl
theorem b_X12_scaled_0 {d : Nat} {r : PO × PM} {I : Nat → Nat → Int} {S : PS} {a0 : Nat} {x1 x2 z : Int} {I1 : Nat → Nat → Int} {S1 : PS} (c : Ca d mX12_isSpot [vR (some (22, 0, a0)), vI x1] ((up2 I a0 0 0), S) (.inl (some (vI z))) (I1, S1)) (k : Ev (d + 1) mX12_scaled (10, [some (vR (some (22, 0, a0))), some (vI x1), some (vI x2), none, none], [vI z], (I1, S1)) r) : Ev (d + 1) mX12_scaled (0, [some (vR (some (22, 0, a0))), some (vI x1), some (vI x2), none, none], [], (I, S)) r :=
  s_aload_n rfl rfl rfl <|
  s_iconst rfl rfl <|
  s_putI rfl rfl rfl <|
  s_aload_n rfl rfl rfl <|
  s_iload_n rfl rfl rfl <|
  s_cvI rfl rfl rfl rfl rfl c k
theorem b_X12_scaled_10 {d : Nat} {r : PO × PM} {I : Nat → Nat → Int} {S : PS} {a0 : Nat} {x1 x2 xs0 : Int} (kt : xs0 ≠ 0 → Ev d mX12_scaled (15, [some (vR (some (22, 0, a0))), some (vI x1), some (vI x2), none, none], [], (I, S)) r) (kf : xs0 = 0 → Ev d mX12_scaled (13, [some (vR (some (22, 0, a0))), some (vI x1), some (vI x2), none, none], [], (I, S)) r) : Ev d mX12_scaled (10, [some (vR (some (22, 0, a0))), some (vI x1), some (vI x2), none, none], [vI xs0], (I, S)) r :=
  s_if_ne 15 rfl rfl kt kf
theorem b_X12_scaled_13 {d : Nat} {I : Nat → Nat → Int} {S : PS} {a0 : Nat} {x1 x2 : Int} : Ev d mX12_scaled (13, [some (vR (some (22, 0, a0))), some (vI x1), some (vI x2), none, none], [], (I, S)) (.inl (some (vI 0)), (I, S)) :=
  s_iconst rfl rfl <|
  s_ret rfl rfl
theorem b_X12_scaled_15 {d : Nat} {r : PO × PM} {I : Nat → Nat → Int} {S : PS} {a0 : Nat} {x1 x2 z : Int} {I1 : Nat → Nat → Int} {S1 : PS} (c : Ca d mX12_behind [vR (some (22, 0, a0)), vI 0, vI x1] (I, S) (.inl (some (vI z))) (I1, S1)) (k : Ev (d + 1) mX12_scaled (21, [some (vR (some (22, 0, a0))), some (vI x1), some (vI x2), none, none], [vI z], (I1, S1)) r) : Ev (d + 1) mX12_scaled (15, [some (vR (some (22, 0, a0))), some (vI x1), some (vI x2), none, none], [], (I, S)) r :=
  s_aload_n rfl rfl rfl <|
  s_iconst rfl rfl <|
  s_iload_n rfl rfl rfl <|
  s_cvI rfl rfl rfl rfl rfl c k
theorem b_X12_scaled_21 {d : Nat} {r : PO × PM} {I : Nat → Nat → Int} {S : PS} {a0 : Nat} {x1 x2 xs0 : Int} (kt : p_lcmp (p_lmul (p_i2l xs0) (p_i2l x2)) (-2147483648) < 0 → Ev d mX12_scaled (47, [some (vR (some (22, 0, a0))), some (vI x1), some (vI x2), some (vL (p_lmul (p_i2l xs0) (p_i2l x2))), none], [vR (some (22, 0, a0))], (I, S)) r) (kf : 0 ≤ p_lcmp (p_lmul (p_i2l xs0) (p_i2l x2)) (-2147483648) → Ev d mX12_scaled (35, [some (vR (some (22, 0, a0))), some (vI x1), some (vI x2), some (vL (p_lmul (p_i2l xs0) (p_i2l x2))), none], [vR (some (22, 0, a0))], (I, S)) r) : Ev d mX12_scaled (21, [some (vR (some (22, 0, a0))), some (vI x1), some (vI x2), none, none], [vI xs0], (I, S)) r :=
  s_i2l rfl <|
  s_iload_n rfl rfl rfl <|
  s_i2l rfl <|
  s_lmul rfl <|
  s_lstore_n [some (vR (some (22, 0, a0))), some (vI x1), some (vI x2), some (vL (p_lmul (p_i2l xs0) (p_i2l x2))), none] rfl rfl <|
  s_aload_n rfl rfl rfl <|
  s_lload_n rfl rfl rfl <|
  s_ldc2_w rfl rfl <|
  s_lcmp rfl <|
  s_if_lt 47 rfl rfl kt kf
theorem b_X12_scaled_35 {d : Nat} {r : PO × PM} {I : Nat → Nat → Int} {S : PS} {a0 as0 : Nat} {x1 x2 y3 : Int} (kt : 0 < p_lcmp y3 2147483647 → Ev d mX12_scaled (47, [some (vR (some (22, 0, a0))), some (vI x1), some (vI x2), some (vL y3), none], [vR (some (22, 0, as0))], (I, S)) r) (kf : p_lcmp y3 2147483647 ≤ 0 → Ev d mX12_scaled (43, [some (vR (some (22, 0, a0))), some (vI x1), some (vI x2), some (vL y3), none], [vR (some (22, 0, as0))], (I, S)) r) : Ev d mX12_scaled (35, [some (vR (some (22, 0, a0))), some (vI x1), some (vI x2), some (vL y3), none], [vR (some (22, 0, as0))], (I, S)) r :=
  s_lload_n rfl rfl rfl <|
  s_ldc2_w rfl rfl <|
  s_lcmp rfl <|
  s_if_gt 47 rfl rfl kt kf
theorem b_X12_scaled_43 {d : Nat} {r : PO × PM} {I : Nat → Nat → Int} {S : PS} {a0 as0 : Nat} {x1 x2 y3 : Int} (k : Ev d mX12_scaled (48, [some (vR (some (22, 0, a0))), some (vI x1), some (vI x2), some (vL y3), none], [vI 1, vR (some (22, 0, as0))], (I, S)) r) : Ev d mX12_scaled (43, [some (vR (some (22, 0, a0))), some (vI x1), some (vI x2), some (vL y3), none], [vR (some (22, 0, as0))], (I, S)) r :=
  s_iconst rfl rfl <|
  s_goto 48 rfl rfl k
theorem b_X12_scaled_47 {d : Nat} {r : PO × PM} {I : Nat → Nat → Int} {S : PS} {a0 as0 : Nat} {x1 x2 y3 : Int} (k : Ev d mX12_scaled (48, [some (vR (some (22, 0, a0))), some (vI x1), some (vI x2), some (vL y3), none], [vI 0, vR (some (22, 0, as0))], (I, S)) r) : Ev d mX12_scaled (47, [some (vR (some (22, 0, a0))), some (vI x1), some (vI x2), some (vL y3), none], [vR (some (22, 0, as0))], (I, S)) r :=
  s_iconst rfl rfl <|
  k
theorem b_X12_scaled_48 {d : Nat} {r : PO × PM} {I : Nat → Nat → Int} {S : PS} {a0 as0 : Nat} {x1 x2 y3 xs1 z : Int} {I1 : Nat → Nat → Int} {S1 : PS} (c : Ca d mX12_right [vR (some (22, 0, as0)), vI xs1, vI 2] (I, S) (.inl (some (vI z))) (I1, S1)) (k : Ev (d + 1) mX12_scaled (52, [some (vR (some (22, 0, a0))), some (vI x1), some (vI x2), some (vL y3), none], [vI z], (I1, S1)) r) : Ev (d + 1) mX12_scaled (48, [some (vR (some (22, 0, a0))), some (vI x1), some (vI x2), some (vL y3), none], [vI xs1, vR (some (22, 0, as0))], (I, S)) r :=
  s_iconst rfl rfl <|
  s_cvI rfl rfl rfl rfl rfl c k
theorem b_X12_scaled_52 {d : Nat} {r : PO × PM} {I : Nat → Nat → Int} {S : PS} {a0 : Nat} {x1 x2 y3 xs0 : Int} (kt : xs0 = 0 → Ev d mX12_scaled (60, [some (vR (some (22, 0, a0))), some (vI x1), some (vI x2), some (vL y3), none], [], (I, S)) r) (kf : xs0 ≠ 0 → Ev d mX12_scaled (55, [some (vR (some (22, 0, a0))), some (vI x1), some (vI x2), some (vL y3), none], [], (I, S)) r) : Ev d mX12_scaled (52, [some (vR (some (22, 0, a0))), some (vI x1), some (vI x2), some (vL y3), none], [vI xs0], (I, S)) r :=
  s_if_eq 60 rfl rfl kt kf
theorem b_X12_scaled_55 {d : Nat} {r : PO × PM} {I : Nat → Nat → Int} {S : PS} {a0 : Nat} {x1 x2 y3 : Int} (k : Ev d mX12_scaled (61, [some (vR (some (22, 0, a0))), some (vI x1), some (vI x2), some (vL y3), none], [vI (p_l2i y3)], (I, S)) r) : Ev d mX12_scaled (55, [some (vR (some (22, 0, a0))), some (vI x1), some (vI x2), some (vL y3), none], [], (I, S)) r :=
  s_lload_n rfl rfl rfl <|
  s_l2i rfl <|
  s_goto 61 rfl rfl k
theorem b_X12_scaled_60 {d : Nat} {r : PO × PM} {I : Nat → Nat → Int} {S : PS} {a0 : Nat} {x1 x2 y3 : Int} (k : Ev d mX12_scaled (61, [some (vR (some (22, 0, a0))), some (vI x1), some (vI x2), some (vL y3), none], [vI 0], (I, S)) r) : Ev d mX12_scaled (60, [some (vR (some (22, 0, a0))), some (vI x1), some (vI x2), some (vL y3), none], [], (I, S)) r :=
  s_iconst rfl rfl <|
  k
theorem b_X12_scaled_61 {d : Nat} {I : Nat → Nat → Int} {S : PS} {a0 : Nat} {x1 x2 y3 xs0 : Int} : Ev d mX12_scaled (61, [some (vR (some (22, 0, a0))), some (vI x1), some (vI x2), some (vL y3), none], [vI xs0], (I, S)) (.inl (some (vI xs0)), (I, S)) :=
  s_ret rfl rfl
theorem b_X12_chainOf_0 {d : Nat} {r : PO × PM} {I : Nat → Nat → Int} {S : PS} {a0 p1 q1 : Nat} {x1 x2 x3 : Int} (hr1 : S.1 a0 39 = some (0, q1, p1)) (ho2 : -2147483648 ≤ x1 + x2 ∧ x1 + x2 ≤ 2147483647) (hi3 : 0 ≤ x1 + x2 ∧ x1 + x2 < (q1 : Nat)) (k : Ev d mX12_chainOf (18, [some (vR (some (22, 0, a0))), some (vI x1), some (vI x2), some (vI x3), some (vI (I p1 (x1 + x2).toNat)), some (vI (p_shl 1 x2)), some (vI 0), none, none, none], [], (I, S)) r) : Ev d mX12_chainOf (0, [some (vR (some (22, 0, a0))), some (vI x1), some (vI x2), some (vI x3), none, none, none, none, none, none], [], (I, S)) r :=
  s_aload_n rfl rfl rfl <|
  s_getR rfl rfl rfl hr1 <|
  s_iload_n rfl rfl rfl <|
  s_iload_n rfl rfl rfl <|
  s_iaddp rfl ho2 <|
  s_iald rfl rfl hi3 <|
  s_istore [some (vR (some (22, 0, a0))), some (vI x1), some (vI x2), some (vI x3), some (vI (I p1 (x1 + x2).toNat)), none, none, none, none, none] rfl rfl <|
  s_iconst rfl rfl <|
  s_iload_n rfl rfl rfl <|
  s_ishl rfl <|
  s_istore [some (vR (some (22, 0, a0))), some (vI x1), some (vI x2), some (vI x3), some (vI (I p1 (x1 + x2).toNat)), some (vI (p_shl 1 x2)), none, none, none, none] rfl rfl <|
  s_iconst rfl rfl <|
  s_istore [some (vR (some (22, 0, a0))), some (vI x1), some (vI x2), some (vI x3), some (vI (I p1 (x1 + x2).toNat)), some (vI (p_shl 1 x2)), some (vI 0), none, none, none] rfl rfl <|
  k
theorem b_X12_chainOf_18 {d : Nat} {r : PO × PM} {I : Nat → Nat → Int} {S : PS} {a0 : Nat} {x1 x2 x3 x4 x5 x6 : Int} (kt : x6 = x5 → Ev d mX12_chainOf (136, [some (vR (some (22, 0, a0))), some (vI x1), some (vI x2), some (vI x3), some (vI x4), some (vI x5), some (vI x6), none, none, none], [], (I, S)) r) (kf : x6 ≠ x5 → Ev d mX12_chainOf (25, [some (vR (some (22, 0, a0))), some (vI x1), some (vI x2), some (vI x3), some (vI x4), some (vI x5), some (vI x6), none, none, none], [], (I, S)) r) : Ev d mX12_chainOf (18, [some (vR (some (22, 0, a0))), some (vI x1), some (vI x2), some (vI x3), some (vI x4), some (vI x5), some (vI x6), none, none, none], [], (I, S)) r :=
  s_iload rfl rfl rfl <|
  s_iload rfl rfl rfl <|
  s_icmp_eq 136 rfl rfl kt kf
theorem b_X12_chainOf_25 {d : Nat} {r : PO × PM} {I : Nat → Nat → Int} {S : PS} {a0 : Nat} {x1 x2 x3 x4 x5 x6 : Int} (k : Ev d mX12_chainOf (32, [some (vR (some (22, 0, a0))), some (vI x1), some (vI x2), some (vI x3), some (vI x4), some (vI x5), some (vI x5), some (vI 0), none, none], [], (I, S)) r) : Ev d mX12_chainOf (25, [some (vR (some (22, 0, a0))), some (vI x1), some (vI x2), some (vI x3), some (vI x4), some (vI x5), some (vI x6), none, none, none], [], (I, S)) r :=
  s_iload rfl rfl rfl <|
  s_istore [some (vR (some (22, 0, a0))), some (vI x1), some (vI x2), some (vI x3), some (vI x4), some (vI x5), some (vI x5), none, none, none] rfl rfl <|
  s_iconst rfl rfl <|
  s_istore [some (vR (some (22, 0, a0))), some (vI x1), some (vI x2), some (vI x3), some (vI x4), some (vI x5), some (vI x5), some (vI 0), none, none] rfl rfl <|
  k
theorem b_X12_chainOf_32 {d : Nat} {r : PO × PM} {I : Nat → Nat → Int} {S : PS} {a0 : Nat} {x1 x2 x3 x4 x5 x6 x7 : Int} (kt : I a0 15 ≤ x7 → Ev d mX12_chainOf (133, [some (vR (some (22, 0, a0))), some (vI x1), some (vI x2), some (vI x3), some (vI x4), some (vI x5), some (vI x6), some (vI x7), none, none], [], (I, S)) r) (kf : x7 < I a0 15 → Ev d mX12_chainOf (41, [some (vR (some (22, 0, a0))), some (vI x1), some (vI x2), some (vI x3), some (vI x4), some (vI x5), some (vI x6), some (vI x7), none, none], [], (I, S)) r) : Ev d mX12_chainOf (32, [some (vR (some (22, 0, a0))), some (vI x1), some (vI x2), some (vI x3), some (vI x4), some (vI x5), some (vI x6), some (vI x7), none, none], [], (I, S)) r :=
  s_iload rfl rfl rfl <|
  s_aload_n rfl rfl rfl <|
  s_getI rfl rfl rfl <|
  s_icmp_ge 133 rfl rfl kt kf
theorem b_X12_chainOf_41 {d : Nat} {r : PO × PM} {I : Nat → Nat → Int} {S : PS} {a0 : Nat} {x1 x2 x3 x4 x5 x6 x7 : Int} (kt : p_and (p_shr x6 x7) 1 ≠ 0 → Ev d mX12_chainOf (54, [some (vR (some (22, 0, a0))), some (vI x1), some (vI x2), some (vI x3), some (vI x4), some (vI x5), some (vI x6), some (vI x7), none, none], [], (I, S)) r) (kf : p_and (p_shr x6 x7) 1 = 0 → Ev d mX12_chainOf (51, [some (vR (some (22, 0, a0))), some (vI x1), some (vI x2), some (vI x3), some (vI x4), some (vI x5), some (vI x6), some (vI x7), none, none], [], (I, S)) r) : Ev d mX12_chainOf (41, [some (vR (some (22, 0, a0))), some (vI x1), some (vI x2), some (vI x3), some (vI x4), some (vI x5), some (vI x6), some (vI x7), none, none], [], (I, S)) r :=
  s_iload rfl rfl rfl <|
  s_iload rfl rfl rfl <|
  s_ishr rfl <|
  s_iconst rfl rfl <|
  s_iand rfl <|
  s_if_ne 54 rfl rfl kt kf
theorem b_X12_chainOf_51 {d : Nat} {r : PO × PM} {I : Nat → Nat → Int} {S : PS} {a0 : Nat} {x1 x2 x3 x4 x5 x6 x7 : Int} (k : Ev d mX12_chainOf (127, [some (vR (some (22, 0, a0))), some (vI x1), some (vI x2), some (vI x3), some (vI x4), some (vI x5), some (vI x6), some (vI x7), none, none], [], (I, S)) r) : Ev d mX12_chainOf (51, [some (vR (some (22, 0, a0))), some (vI x1), some (vI x2), some (vI x3), some (vI x4), some (vI x5), some (vI x6), some (vI x7), none, none], [], (I, S)) r :=
  s_goto 127 rfl rfl k
theorem b_X12_chainOf_54 {d : Nat} {r : PO × PM} {I : Nat → Nat → Int} {S : PS} {a0 : Nat} {x1 x2 x3 x4 x5 x6 x7 : Int} (k : Ev d mX12_chainOf (57, [some (vR (some (22, 0, a0))), some (vI x1), some (vI x2), some (vI x3), some (vI x4), some (vI x5), some (vI x6), some (vI x7), some (vI 0), none], [], (I, S)) r) : Ev d mX12_chainOf (54, [some (vR (some (22, 0, a0))), some (vI x1), some (vI x2), some (vI x3), some (vI x4), some (vI x5), some (vI x6), some (vI x7), none, none], [], (I, S)) r :=
  s_iconst rfl rfl <|
  s_istore [some (vR (some (22, 0, a0))), some (vI x1), some (vI x2), some (vI x3), some (vI x4), some (vI x5), some (vI x6), some (vI x7), some (vI 0), none] rfl rfl <|
  k
theorem b_X12_chainOf_57 {d : Nat} {r : PO × PM} {I : Nat → Nat → Int} {S : PS} {a0 : Nat} {x1 x2 x3 x4 x5 x6 x7 x8 z : Int} {I1 : Nat → Nat → Int} {S1 : PS} (c : Ca d mX12_degree [vR (some (22, 0, a0)), vI x7] (I, S) (.inl (some (vI z))) (I1, S1)) (k : Ev (d + 1) mX12_chainOf (65, [some (vR (some (22, 0, a0))), some (vI x1), some (vI x2), some (vI x3), some (vI x4), some (vI x5), some (vI x6), some (vI x7), some (vI x8), none], [vI z, vI x8], (I1, S1)) r) : Ev (d + 1) mX12_chainOf (57, [some (vR (some (22, 0, a0))), some (vI x1), some (vI x2), some (vI x3), some (vI x4), some (vI x5), some (vI x6), some (vI x7), some (vI x8), none], [], (I, S)) r :=
  s_iload rfl rfl rfl <|
  s_aload_n rfl rfl rfl <|
  s_iload rfl rfl rfl <|
  s_cvI rfl rfl rfl rfl rfl c k
theorem b_X12_chainOf_65 {d : Nat} {r : PO × PM} {I : Nat → Nat → Int} {S : PS} {a0 : Nat} {x1 x2 x3 x4 x5 x6 x7 x8 xs0 xs1 : Int} (kt : xs1 ≤ xs0 → Ev d mX12_chainOf (127, [some (vR (some (22, 0, a0))), some (vI x1), some (vI x2), some (vI x3), some (vI x4), some (vI x5), some (vI x6), some (vI x7), none, none], [], (I, S)) r) (kf : xs0 < xs1 → Ev d mX12_chainOf (68, [some (vR (some (22, 0, a0))), some (vI x1), some (vI x2), some (vI x3), some (vI x4), some (vI x5), some (vI x6), some (vI x7), some (vI x8), none], [], (I, S)) r) : Ev d mX12_chainOf (65, [some (vR (some (22, 0, a0))), some (vI x1), some (vI x2), some (vI x3), some (vI x4), some (vI x5), some (vI x6), some (vI x7), some (vI x8), none], [vI xs1, vI xs0], (I, S)) r :=
  s_icmp_ge 127 rfl rfl (fun c => ev_forget [false, false, false, false, false, false, false, false, true, false] rfl <| kt c) kf
theorem b_X12_chainOf_68 {d : Nat} {r : PO × PM} {I : Nat → Nat → Int} {S : PS} {a0 p1 q1 p6 q6 : Nat} {x1 x2 x3 x4 x5 x6 x7 x8 : Int} (hr1 : S.1 a0 21 = some (0, q1, p1)) (ho2 : -2147483648 ≤ 10 * x7 ∧ 10 * x7 ≤ 2147483647) (ho3 : -2147483648 ≤ (10 * x7) + 1 ∧ (10 * x7) + 1 ≤ 2147483647) (ho4 : -2147483648 ≤ ((10 * x7) + 1) + x8 ∧ ((10 * x7) + 1) + x8 ≤ 2147483647) (hi5 : 0 ≤ ((10 * x7) + 1) + x8 ∧ ((10 * x7) + 1) + x8 < (q1 : Nat)) (hr6 : S.1 a0 39 = some (0, q6, p6)) (ho7 : -2147483648 ≤ x1 + (I p1 (((10 * x7) + 1) + x8).toNat) ∧ x1 + (I p1 (((10 * x7) + 1) + x8).toNat) ≤ 2147483647) (hi8 : 0 ≤ x1 + (I p1 (((10 * x7) + 1) + x8).toNat) ∧ x1 + (I p1 (((10 * x7) + 1) + x8).toNat) < (q6 : Nat)) (kt : I p6 (x1 + (I p1 (((10 * x7) + 1) + x8).toNat)).toNat = x3 → Ev d mX12_chainOf (112, [some (vR (some (22, 0, a0))), some (vI x1), some (vI x2), some (vI x3), some (vI x4), some (vI x5), some (vI x6), some (vI x7), some (vI x8), some (vI (I p1 (((10 * x7) + 1) + x8).toNat))], [], (I, S)) r) (kf : I p6 (x1 + (I p1 (((10 * x7) + 1) + x8).toNat)).toNat ≠ x3 → Ev d mX12_chainOf (98, [some (vR (some (22, 0, a0))), some (vI x1), some (vI x2), some (vI x3), some (vI x4), some (vI x5), some (vI x6), some (vI x7), some (vI x8), some (vI (I p1 (((10 * x7) + 1) + x8).toNat))], [], (I, S)) r) : Ev d mX12_chainOf (68, [some (vR (some (22, 0, a0))), some (vI x1), some (vI x2), some (vI x3), some (vI x4), some (vI x5), some (vI x6), some (vI x7), some (vI x8), none], [], (I, S)) r :=
  s_aload_n rfl rfl rfl <|
  s_getR rfl rfl rfl hr1 <|
  s_bipush rfl rfl <|
  s_iload rfl rfl rfl <|
  s_imulp rfl ho2 <|
  s_iconst rfl rfl <|
  s_iaddp rfl ho3 <|
  s_iload rfl rfl rfl <|
  s_iaddp rfl ho4 <|
  s_iald rfl rfl hi5 <|
  s_istore [some (vR (some (22, 0, a0))), some (vI x1), some (vI x2), some (vI x3), some (vI x4), some (vI x5), some (vI x6), some (vI x7), some (vI x8), some (vI (I p1 (((10 * x7) + 1) + x8).toNat))] rfl rfl <|
  s_aload_n rfl rfl rfl <|
  s_getR rfl rfl rfl hr6 <|
  s_iload_n rfl rfl rfl <|
  s_iload rfl rfl rfl <|
  s_iaddp rfl ho7 <|
  s_iald rfl rfl hi8 <|
  s_iload_n rfl rfl rfl <|
  s_icmp_eq 112 rfl rfl kt kf
theorem b_X12_chainOf_98 {d : Nat} {r : PO × PM} {I : Nat → Nat → Int} {S : PS} {a0 p1 q1 : Nat} {x1 x2 x3 x4 x5 x6 x7 x8 x9 : Int} (hr1 : S.1 a0 39 = some (0, q1, p1)) (ho2 : -2147483648 ≤ x1 + x9 ∧ x1 + x9 ≤ 2147483647) (hi3 : 0 ≤ x1 + x9 ∧ x1 + x9 < (q1 : Nat)) (kt : I p1 (x1 + x9).toNat ≠ x4 → Ev d mX12_chainOf (121, [some (vR (some (22, 0, a0))), some (vI x1), some (vI x2), some (vI x3), some (vI x4), some (vI x5), some (vI x6), some (vI x7), some (vI x8), some (vI x9)], [], (I, S)) r) (kf : I p1 (x1 + x9).toNat = x4 → Ev d mX12_chainOf (112, [some (vR (some (22, 0, a0))), some (vI x1), some (vI x2), some (vI x3), some (vI x4), some (vI x5), some (vI x6), some (vI x7), some (vI x8), some (vI x9)], [], (I, S)) r) : Ev d mX12_chainOf (98, [some (vR (some (22, 0, a0))), some (vI x1), some (vI x2), some (vI x3), some (vI x4), some (vI x5), some (vI x6), some (vI x7), some (vI x8), some (vI x9)], [], (I, S)) r :=
  s_aload_n rfl rfl rfl <|
  s_getR rfl rfl rfl hr1 <|
  s_iload_n rfl rfl rfl <|
  s_iload rfl rfl rfl <|
  s_iaddp rfl ho2 <|
  s_iald rfl rfl hi3 <|
  s_iload rfl rfl rfl <|
  s_icmp_ne 121 rfl rfl kt kf
theorem b_X12_chainOf_112 {d : Nat} {r : PO × PM} {I : Nat → Nat → Int} {S : PS} {a0 : Nat} {x1 x2 x3 x4 x5 x6 x7 x8 x9 : Int} (k : Ev d mX12_chainOf (121, [some (vR (some (22, 0, a0))), some (vI x1), some (vI x2), some (vI x3), some (vI x4), some (vI (p_or x5 (p_shl 1 x9))), some (vI x6), some (vI x7), some (vI x8), some (vI x9)], [], (I, S)) r) : Ev d mX12_chainOf (112, [some (vR (some (22, 0, a0))), some (vI x1), some (vI x2), some (vI x3), some (vI x4), some (vI x5), some (vI x6), some (vI x7), some (vI x8), some (vI x9)], [], (I, S)) r :=
  s_iload rfl rfl rfl <|
  s_iconst rfl rfl <|
  s_iload rfl rfl rfl <|
  s_ishl rfl <|
  s_ior rfl <|
  s_istore [some (vR (some (22, 0, a0))), some (vI x1), some (vI x2), some (vI x3), some (vI x4), some (vI (p_or x5 (p_shl 1 x9))), some (vI x6), some (vI x7), some (vI x8), some (vI x9)] rfl rfl <|
  k
theorem b_X12_chainOf_121 {d : Nat} {r : PO × PM} {I : Nat → Nat → Int} {S : PS} {a0 : Nat} {x1 x2 x3 x4 x5 x6 x7 x8 x9 : Int} (ho1 : -2147483648 ≤ x8 + 1 ∧ x8 + 1 ≤ 2147483647) (k : Ev d mX12_chainOf (57, [some (vR (some (22, 0, a0))), some (vI x1), some (vI x2), some (vI x3), some (vI x4), some (vI x5), some (vI x6), some (vI x7), some (vI (x8 + 1)), none], [], (I, S)) r) : Ev d mX12_chainOf (121, [some (vR (some (22, 0, a0))), some (vI x1), some (vI x2), some (vI x3), some (vI x4), some (vI x5), some (vI x6), some (vI x7), some (vI x8), some (vI x9)], [], (I, S)) r :=
  s_iincp [some (vR (some (22, 0, a0))), some (vI x1), some (vI x2), some (vI x3), some (vI x4), some (vI x5), some (vI x6), some (vI x7), some (vI (x8 + 1)), some (vI x9)] rfl rfl ho1 rfl <|
  s_goto 57 rfl rfl (ev_forget [false, false, false, false, false, false, false, false, false, true] rfl k)
theorem b_X12_chainOf_127 {d : Nat} {r : PO × PM} {I : Nat → Nat → Int} {S : PS} {a0 : Nat} {x1 x2 x3 x4 x5 x6 x7 : Int} (ho1 : -2147483648 ≤ x7 + 1 ∧ x7 + 1 ≤ 2147483647) (k : Ev d mX12_chainOf (32, [some (vR (some (22, 0, a0))), some (vI x1), some (vI x2), some (vI x3), some (vI x4), some (vI x5), some (vI x6), some (vI (x7 + 1)), none, none], [], (I, S)) r) : Ev d mX12_chainOf (127, [some (vR (some (22, 0, a0))), some (vI x1), some (vI x2), some (vI x3), some (vI x4), some (vI x5), some (vI x6), some (vI x7), none, none], [], (I, S)) r :=
  s_iincp [some (vR (some (22, 0, a0))), some (vI x1), some (vI x2), some (vI x3), some (vI x4), some (vI x5), some (vI x6), some (vI (x7 + 1)), none, none] rfl rfl ho1 rfl <|
  s_goto 32 rfl rfl k
theorem b_X12_chainOf_133 {d : Nat} {r : PO × PM} {I : Nat → Nat → Int} {S : PS} {a0 : Nat} {x1 x2 x3 x4 x5 x6 x7 : Int} (k : Ev d mX12_chainOf (18, [some (vR (some (22, 0, a0))), some (vI x1), some (vI x2), some (vI x3), some (vI x4), some (vI x5), some (vI x6), none, none, none], [], (I, S)) r) : Ev d mX12_chainOf (133, [some (vR (some (22, 0, a0))), some (vI x1), some (vI x2), some (vI x3), some (vI x4), some (vI x5), some (vI x6), some (vI x7), none, none], [], (I, S)) r :=
  s_goto 18 rfl rfl (ev_forget [false, false, false, false, false, false, false, true, false, false] rfl k)
theorem b_X12_chainOf_136 {d : Nat} {I : Nat → Nat → Int} {S : PS} {a0 : Nat} {x1 x2 x3 x4 x5 x6 : Int} : Ev d mX12_chainOf (136, [some (vR (some (22, 0, a0))), some (vI x1), some (vI x2), some (vI x3), some (vI x4), some (vI x5), some (vI x6), none, none, none], [], (I, S)) (.inl (some (vI x5)), (I, S)) :=
  s_iload rfl rfl rfl <|
  s_ret rfl rfl
theorem b_X12_canSwap_0 {d : Nat} {r : PO × PM} {I : Nat → Nat → Int} {S : PS} {a0 p1 q1 : Nat} {x1 x2 x3 : Int} (hr1 : S.1 a0 39 = some (0, q1, p1)) (ho2 : -2147483648 ≤ x1 + x2 ∧ x1 + x2 ≤ 2147483647) (hi3 : 0 ≤ x1 + x2 ∧ x1 + x2 < (q1 : Nat)) (kt : I p1 (x1 + x2).toNat = (-1) → Ev d mX12_canSwap (37, [some (vR (some (22, 0, a0))), some (vI x1), some (vI x2), some (vI x3)], [], (I, S)) r) (kf : I p1 (x1 + x2).toNat ≠ (-1) → Ev d mX12_canSwap (12, [some (vR (some (22, 0, a0))), some (vI x1), some (vI x2), some (vI x3)], [], (I, S)) r) : Ev d mX12_canSwap (0, [some (vR (some (22, 0, a0))), some (vI x1), some (vI x2), some (vI x3)], [], (I, S)) r :=
  s_aload_n rfl rfl rfl <|
  s_getR rfl rfl rfl hr1 <|
  s_iload_n rfl rfl rfl <|
  s_iload_n rfl rfl rfl <|
  s_iaddp rfl ho2 <|
  s_iald rfl rfl hi3 <|
  s_iconst rfl rfl <|
  s_icmp_eq 37 rfl rfl kt kf
theorem b_X12_canSwap_12 {d : Nat} {r : PO × PM} {I : Nat → Nat → Int} {S : PS} {a0 : Nat} {x1 x2 x3 z : Int} {I1 : Nat → Nat → Int} {S1 : PS} (c : Ca d mX12_within [vI x3, vI 0, vI 3] (I, S) (.inl (some (vI z))) (I1, S1)) (k : Ev (d + 1) mX12_canSwap (18, [some (vR (some (22, 0, a0))), some (vI x1), some (vI x2), some (vI x3)], [vI z], (I1, S1)) r) : Ev (d + 1) mX12_canSwap (12, [some (vR (some (22, 0, a0))), some (vI x1), some (vI x2), some (vI x3)], [], (I, S)) r :=
  s_iload_n rfl rfl rfl <|
  s_iconst rfl rfl <|
  s_iconst rfl rfl <|
  s_csI rfl rfl rfl rfl rfl rfl c k
theorem b_X12_canSwap_18 {d : Nat} {r : PO × PM} {I : Nat → Nat → Int} {S : PS} {a0 : Nat} {x1 x2 x3 xs0 : Int} (kt : xs0 = 0 → Ev d mX12_canSwap (37, [some (vR (some (22, 0, a0))), some (vI x1), some (vI x2), some (vI x3)], [], (I, S)) r) (kf : xs0 ≠ 0 → Ev d mX12_canSwap (21, [some (vR (some (22, 0, a0))), some (vI x1), some (vI x2), some (vI x3)], [], (I, S)) r) : Ev d mX12_canSwap (18, [some (vR (some (22, 0, a0))), some (vI x1), some (vI x2), some (vI x3)], [vI xs0], (I, S)) r :=
  s_if_eq 37 rfl rfl kt kf
theorem b_X12_canSwap_21 {d : Nat} {r : PO × PM} {I : Nat → Nat → Int} {S : PS} {a0 p1 q1 : Nat} {x1 x2 x3 : Int} (hr1 : S.1 a0 39 = some (0, q1, p1)) (ho2 : -2147483648 ≤ x1 + x2 ∧ x1 + x2 ≤ 2147483647) (hi3 : 0 ≤ x1 + x2 ∧ x1 + x2 < (q1 : Nat)) (kt : I p1 (x1 + x2).toNat = x3 → Ev d mX12_canSwap (37, [some (vR (some (22, 0, a0))), some (vI x1), some (vI x2), some (vI x3)], [], (I, S)) r) (kf : I p1 (x1 + x2).toNat ≠ x3 → Ev d mX12_canSwap (33, [some (vR (some (22, 0, a0))), some (vI x1), some (vI x2), some (vI x3)], [], (I, S)) r) : Ev d mX12_canSwap (21, [some (vR (some (22, 0, a0))), some (vI x1), some (vI x2), some (vI x3)], [], (I, S)) r :=
  s_aload_n rfl rfl rfl <|
  s_getR rfl rfl rfl hr1 <|
  s_iload_n rfl rfl rfl <|
  s_iload_n rfl rfl rfl <|
  s_iaddp rfl ho2 <|
  s_iald rfl rfl hi3 <|
  s_iload_n rfl rfl rfl <|
  s_icmp_eq 37 rfl rfl kt kf
theorem b_X12_canSwap_33 {d : Nat} {r : PO × PM} {I : Nat → Nat → Int} {S : PS} {a0 : Nat} {x1 x2 x3 : Int} (k : Ev d mX12_canSwap (38, [some (vR (some (22, 0, a0))), some (vI x1), some (vI x2), some (vI x3)], [vI 1], (I, S)) r) : Ev d mX12_canSwap (33, [some (vR (some (22, 0, a0))), some (vI x1), some (vI x2), some (vI x3)], [], (I, S)) r :=
  s_iconst rfl rfl <|
  s_goto 38 rfl rfl k
theorem b_X12_canSwap_37 {d : Nat} {r : PO × PM} {I : Nat → Nat → Int} {S : PS} {a0 : Nat} {x1 x2 x3 : Int} (k : Ev d mX12_canSwap (38, [some (vR (some (22, 0, a0))), some (vI x1), some (vI x2), some (vI x3)], [vI 0], (I, S)) r) : Ev d mX12_canSwap (37, [some (vR (some (22, 0, a0))), some (vI x1), some (vI x2), some (vI x3)], [], (I, S)) r :=
  s_iconst rfl rfl <|
  k
theorem b_X12_canSwap_38 {d : Nat} {I : Nat → Nat → Int} {S : PS} {a0 : Nat} {x1 x2 x3 xs0 : Int} (hb1 : xs0 = 0 ∨ xs0 = 1) : Ev d mX12_canSwap (38, [some (vR (some (22, 0, a0))), some (vI x1), some (vI x2), some (vI x3)], [vI xs0], (I, S)) (.inl (some (vI xs0)), (I, S)) :=
  s_retz rfl rfl hb1
theorem b_X12_swaps_0 {d : Nat} {r : PO × PM} {I : Nat → Nat → Int} {S : PS} {a0 p1 q1 : Nat} {x1 x2 x3 z : Int} {I1 : Nat → Nat → Int} {S1 : PS} (hr1 : S.1 a0 39 = some (0, q1, p1)) (ho2 : -2147483648 ≤ x1 + x2 ∧ x1 + x2 ≤ 2147483647) (hi3 : 0 ≤ x1 + x2 ∧ x1 + x2 < (q1 : Nat)) (c : Ca d mX12_chainOf [vR (some (22, 0, a0)), vI x1, vI x2, vI x3] (I, S) (.inl (some (vI z))) (I1, S1)) (k : Ev (d + 1) mX12_swaps (17, [some (vR (some (22, 0, a0))), some (vI x1), some (vI x2), some (vI x3), some (vI (I p1 (x1 + x2).toNat)), none, none], [vI z], (I1, S1)) r) : Ev (d + 1) mX12_swaps (0, [some (vR (some (22, 0, a0))), some (vI x1), some (vI x2), some (vI x3), none, none, none], [], (I, S)) r :=
  s_aload_n rfl rfl rfl <|
  s_getR rfl rfl rfl hr1 <|
  s_iload_n rfl rfl rfl <|
  s_iload_n rfl rfl rfl <|
  s_iaddp rfl ho2 <|
  s_iald rfl rfl hi3 <|
  s_istore [some (vR (some (22, 0, a0))), some (vI x1), some (vI x2), some (vI x3), some (vI (I p1 (x1 + x2).toNat)), none, none] rfl rfl <|
  s_aload_n rfl rfl rfl <|
  s_iload_n rfl rfl rfl <|
  s_iload_n rfl rfl rfl <|
  s_iload_n rfl rfl rfl <|
  s_cvI rfl rfl rfl rfl rfl c k
theorem b_X12_swaps_17 {d : Nat} {r : PO × PM} {I : Nat → Nat → Int} {S : PS} {a0 : Nat} {x1 x2 x3 x4 xs0 : Int} (k : Ev d mX12_swaps (22, [some (vR (some (22, 0, a0))), some (vI x1), some (vI x2), some (vI x3), some (vI x4), some (vI xs0), some (vI 0)], [], (I, S)) r) : Ev d mX12_swaps (17, [some (vR (some (22, 0, a0))), some (vI x1), some (vI x2), some (vI x3), some (vI x4), none, none], [vI xs0], (I, S)) r :=
  s_istore [some (vR (some (22, 0, a0))), some (vI x1), some (vI x2), some (vI x3), some (vI x4), some (vI xs0), none] rfl rfl <|
  s_iconst rfl rfl <|
  s_istore [some (vR (some (22, 0, a0))), some (vI x1), some (vI x2), some (vI x3), some (vI x4), some (vI xs0), some (vI 0)] rfl rfl <|
  k
theorem b_X12_swaps_22 {d : Nat} {r : PO × PM} {I : Nat → Nat → Int} {S : PS} {a0 : Nat} {x1 x2 x3 x4 x5 x6 : Int} (kt : I a0 15 ≤ x6 → Ev d mX12_swaps (76, [some (vR (some (22, 0, a0))), some (vI x1), some (vI x2), some (vI x3), some (vI x4), some (vI x5), some (vI x6)], [], (I, S)) r) (kf : x6 < I a0 15 → Ev d mX12_swaps (31, [some (vR (some (22, 0, a0))), some (vI x1), some (vI x2), some (vI x3), some (vI x4), some (vI x5), some (vI x6)], [], (I, S)) r) : Ev d mX12_swaps (22, [some (vR (some (22, 0, a0))), some (vI x1), some (vI x2), some (vI x3), some (vI x4), some (vI x5), some (vI x6)], [], (I, S)) r :=
  s_iload rfl rfl rfl <|
  s_aload_n rfl rfl rfl <|
  s_getI rfl rfl rfl <|
  s_icmp_ge 76 rfl rfl kt kf
theorem b_X12_swaps_31 {d : Nat} {r : PO × PM} {I : Nat → Nat → Int} {S : PS} {a0 : Nat} {x1 x2 x3 x4 x5 x6 : Int} (kt : p_and (p_shr x5 x6) 1 ≠ 1 → Ev d mX12_swaps (70, [some (vR (some (22, 0, a0))), some (vI x1), some (vI x2), some (vI x3), some (vI x4), some (vI x5), some (vI x6)], [], (I, S)) r) (kf : p_and (p_shr x5 x6) 1 = 1 → Ev d mX12_swaps (42, [some (vR (some (22, 0, a0))), some (vI x1), some (vI x2), some (vI x3), some (vI x4), some (vI x5), some (vI x6)], [], (I, S)) r) : Ev d mX12_swaps (31, [some (vR (some (22, 0, a0))), some (vI x1), some (vI x2), some (vI x3), some (vI x4), some (vI x5), some (vI x6)], [], (I, S)) r :=
  s_iload rfl rfl rfl <|
  s_iload rfl rfl rfl <|
  s_ishr rfl <|
  s_iconst rfl rfl <|
  s_iand rfl <|
  s_iconst rfl rfl <|
  s_icmp_ne 70 rfl rfl kt kf
theorem b_X12_swaps_42 {d : Nat} {r : PO × PM} {I : Nat → Nat → Int} {S : PS} {a0 p1 q1 : Nat} {x1 x2 x3 x4 x5 x6 : Int} (hr1 : S.1 a0 39 = some (0, q1, p1)) (ho2 : -2147483648 ≤ x1 + x6 ∧ x1 + x6 ≤ 2147483647) (ho3 : -2147483648 ≤ x1 + x6 ∧ x1 + x6 ≤ 2147483647) (hi4 : 0 ≤ x1 + x6 ∧ x1 + x6 < (q1 : Nat)) (kt : I p1 (x1 + x6).toNat ≠ x3 → Ev d mX12_swaps (68, [some (vR (some (22, 0, a0))), some (vI x1), some (vI x2), some (vI x3), some (vI x4), some (vI x5), some (vI x6)], [vI (x1 + x6), vR (some (0, q1, p1))], (I, S)) r) (kf : I p1 (x1 + x6).toNat = x3 → Ev d mX12_swaps (63, [some (vR (some (22, 0, a0))), some (vI x1), some (vI x2), some (vI x3), some (vI x4), some (vI x5), some (vI x6)], [vI (x1 + x6), vR (some (0, q1, p1))], (I, S)) r) : Ev d mX12_swaps (42, [some (vR (some (22, 0, a0))), some (vI x1), some (vI x2), some (vI x3), some (vI x4), some (vI x5), some (vI x6)], [], (I, S)) r :=
  s_aload_n rfl rfl rfl <|
  s_getR rfl rfl rfl hr1 <|
  s_iload_n rfl rfl rfl <|
  s_iload rfl rfl rfl <|
  s_iaddp rfl ho2 <|
  s_aload_n rfl rfl rfl <|
  s_getR rfl rfl rfl hr1 <|
  s_iload_n rfl rfl rfl <|
  s_iload rfl rfl rfl <|
  s_iaddp rfl ho3 <|
  s_iald rfl rfl hi4 <|
  s_iload_n rfl rfl rfl <|
  s_icmp_ne 68 rfl rfl kt kf
theorem b_X12_swaps_63 {d : Nat} {r : PO × PM} {I : Nat → Nat → Int} {S : PS} {a0 ns0 as0 : Nat} {x1 x2 x3 x4 x5 x6 xs1 : Int} (k : Ev d mX12_swaps (69, [some (vR (some (22, 0, a0))), some (vI x1), some (vI x2), some (vI x3), some (vI x4), some (vI x5), some (vI x6)], [vI x4, vI xs1, vR (some (0, ns0, as0))], (I, S)) r) : Ev d mX12_swaps (63, [some (vR (some (22, 0, a0))), some (vI x1), some (vI x2), some (vI x3), some (vI x4), some (vI x5), some (vI x6)], [vI xs1, vR (some (0, ns0, as0))], (I, S)) r :=
  s_iload rfl rfl rfl <|
  s_goto 69 rfl rfl k
theorem b_X12_swaps_68 {d : Nat} {r : PO × PM} {I : Nat → Nat → Int} {S : PS} {a0 ns0 as0 : Nat} {x1 x2 x3 x4 x5 x6 xs1 : Int} (k : Ev d mX12_swaps (69, [some (vR (some (22, 0, a0))), some (vI x1), some (vI x2), some (vI x3), some (vI x4), some (vI x5), some (vI x6)], [vI x3, vI xs1, vR (some (0, ns0, as0))], (I, S)) r) : Ev d mX12_swaps (68, [some (vR (some (22, 0, a0))), some (vI x1), some (vI x2), some (vI x3), some (vI x4), some (vI x5), some (vI x6)], [vI xs1, vR (some (0, ns0, as0))], (I, S)) r :=
  s_iload_n rfl rfl rfl <|
  k
theorem b_X12_swaps_69 {d : Nat} {r : PO × PM} {I : Nat → Nat → Int} {S : PS} {a0 ns0 as0 : Nat} {x1 x2 x3 x4 x5 x6 xs1 xs2 : Int} (hi1 : 0 ≤ xs1 ∧ xs1 < (ns0 : Nat)) (k : Ev d mX12_swaps (70, [some (vR (some (22, 0, a0))), some (vI x1), some (vI x2), some (vI x3), some (vI x4), some (vI x5), some (vI x6)], [], ((up2 I as0 (xs1.toNat) xs2), S)) r) : Ev d mX12_swaps (69, [some (vR (some (22, 0, a0))), some (vI x1), some (vI x2), some (vI x3), some (vI x4), some (vI x5), some (vI x6)], [vI xs2, vI xs1, vR (some (0, ns0, as0))], (I, S)) r :=
  s_iast rfl hi1 <|
  k
theorem b_X12_swaps_70 {d : Nat} {r : PO × PM} {I : Nat → Nat → Int} {S : PS} {a0 : Nat} {x1 x2 x3 x4 x5 x6 : Int} (ho1 : -2147483648 ≤ x6 + 1 ∧ x6 + 1 ≤ 2147483647) (k : Ev d mX12_swaps (22, [some (vR (some (22, 0, a0))), some (vI x1), some (vI x2), some (vI x3), some (vI x4), some (vI x5), some (vI (x6 + 1))], [], (I, S)) r) : Ev d mX12_swaps (70, [some (vR (some (22, 0, a0))), some (vI x1), some (vI x2), some (vI x3), some (vI x4), some (vI x5), some (vI x6)], [], (I, S)) r :=
  s_iincp [some (vR (some (22, 0, a0))), some (vI x1), some (vI x2), some (vI x3), some (vI x4), some (vI x5), some (vI (x6 + 1))] rfl rfl ho1 rfl <|
  s_goto 22 rfl rfl k
theorem b_X12_swaps_76 {d : Nat} {r : PO × PM} {I : Nat → Nat → Int} {S : PS} {a0 : Nat} {x1 x2 x3 x4 x5 x6 z : Int} {I1 : Nat → Nat → Int} {S1 : PS} (c : Ca d mX12_bits [vI x5] (I, S) (.inl (some (vI z))) (I1, S1)) (k : Ev (d + 1) mX12_swaps (81, [some (vR (some (22, 0, a0))), some (vI x1), some (vI x2), some (vI x3), some (vI x4), some (vI x5), some (vI x6)], [vI z], (I1, S1)) r) : Ev (d + 1) mX12_swaps (76, [some (vR (some (22, 0, a0))), some (vI x1), some (vI x2), some (vI x3), some (vI x4), some (vI x5), some (vI x6)], [], (I, S)) r :=
  s_iload rfl rfl rfl <|
  s_csI rfl rfl rfl rfl rfl rfl c k
theorem b_X12_swaps_81 {d : Nat} {I : Nat → Nat → Int} {S : PS} {a0 : Nat} {x1 x2 x3 x4 x5 x6 xs0 : Int} : Ev d mX12_swaps (81, [some (vR (some (22, 0, a0))), some (vI x1), some (vI x2), some (vI x3), some (vI x4), some (vI x5), some (vI x6)], [vI xs0], (I, S)) (.inl (some (vI xs0)), (I, S)) :=
  s_ret rfl rfl
theorem b_X12_canPaint_0 {d : Nat} {r : PO × PM} {I : Nat → Nat → Int} {S : PS} {a0 p1 q1 : Nat} {x1 x2 x3 : Int} (hr1 : S.1 a0 39 = some (0, q1, p1)) (ho2 : -2147483648 ≤ x1 + x2 ∧ x1 + x2 ≤ 2147483647) (hi3 : 0 ≤ x1 + x2 ∧ x1 + x2 < (q1 : Nat)) (kt : I p1 (x1 + x2).toNat ≠ (-1) → Ev d mX12_canPaint (26, [some (vR (some (22, 0, a0))), some (vI x1), some (vI x2), some (vI x3)], [], (I, S)) r) (kf : I p1 (x1 + x2).toNat = (-1) → Ev d mX12_canPaint (12, [some (vR (some (22, 0, a0))), some (vI x1), some (vI x2), some (vI x3)], [], (I, S)) r) : Ev d mX12_canPaint (0, [some (vR (some (22, 0, a0))), some (vI x1), some (vI x2), some (vI x3)], [], (I, S)) r :=
  s_aload_n rfl rfl rfl <|
  s_getR rfl rfl rfl hr1 <|
  s_iload_n rfl rfl rfl <|
  s_iload_n rfl rfl rfl <|
  s_iaddp rfl ho2 <|
  s_iald rfl rfl hi3 <|
  s_iconst rfl rfl <|
  s_icmp_ne 26 rfl rfl kt kf
theorem b_X12_canPaint_12 {d : Nat} {r : PO × PM} {I : Nat → Nat → Int} {S : PS} {a0 : Nat} {x1 x2 x3 z : Int} {I1 : Nat → Nat → Int} {S1 : PS} (c : Ca d mX12_isFree [vR (some (22, 0, a0)), vI x1, vI x2, vI x3] (I, S) (.inl (some (vI z))) (I1, S1)) (k : Ev (d + 1) mX12_canPaint (19, [some (vR (some (22, 0, a0))), some (vI x1), some (vI x2), some (vI x3)], [vI z], (I1, S1)) r) : Ev (d + 1) mX12_canPaint (12, [some (vR (some (22, 0, a0))), some (vI x1), some (vI x2), some (vI x3)], [], (I, S)) r :=
  s_aload_n rfl rfl rfl <|
  s_iload_n rfl rfl rfl <|
  s_iload_n rfl rfl rfl <|
  s_iload_n rfl rfl rfl <|
  s_cvI rfl rfl rfl rfl rfl c k
theorem b_X12_canPaint_19 {d : Nat} {r : PO × PM} {I : Nat → Nat → Int} {S : PS} {a0 : Nat} {x1 x2 x3 xs0 : Int} (kt : xs0 = 0 → Ev d mX12_canPaint (26, [some (vR (some (22, 0, a0))), some (vI x1), some (vI x2), some (vI x3)], [], (I, S)) r) (kf : xs0 ≠ 0 → Ev d mX12_canPaint (22, [some (vR (some (22, 0, a0))), some (vI x1), some (vI x2), some (vI x3)], [], (I, S)) r) : Ev d mX12_canPaint (19, [some (vR (some (22, 0, a0))), some (vI x1), some (vI x2), some (vI x3)], [vI xs0], (I, S)) r :=
  s_if_eq 26 rfl rfl kt kf
theorem b_X12_canPaint_22 {d : Nat} {r : PO × PM} {I : Nat → Nat → Int} {S : PS} {a0 : Nat} {x1 x2 x3 : Int} (k : Ev d mX12_canPaint (27, [some (vR (some (22, 0, a0))), some (vI x1), some (vI x2), some (vI x3)], [vI 1], (I, S)) r) : Ev d mX12_canPaint (22, [some (vR (some (22, 0, a0))), some (vI x1), some (vI x2), some (vI x3)], [], (I, S)) r :=
  s_iconst rfl rfl <|
  s_goto 27 rfl rfl k
theorem b_X12_canPaint_26 {d : Nat} {r : PO × PM} {I : Nat → Nat → Int} {S : PS} {a0 : Nat} {x1 x2 x3 : Int} (k : Ev d mX12_canPaint (27, [some (vR (some (22, 0, a0))), some (vI x1), some (vI x2), some (vI x3)], [vI 0], (I, S)) r) : Ev d mX12_canPaint (26, [some (vR (some (22, 0, a0))), some (vI x1), some (vI x2), some (vI x3)], [], (I, S)) r :=
  s_iconst rfl rfl <|
  k
theorem b_X12_canPaint_27 {d : Nat} {I : Nat → Nat → Int} {S : PS} {a0 : Nat} {x1 x2 x3 xs0 : Int} (hb1 : xs0 = 0 ∨ xs0 = 1) : Ev d mX12_canPaint (27, [some (vR (some (22, 0, a0))), some (vI x1), some (vI x2), some (vI x3)], [vI xs0], (I, S)) (.inl (some (vI xs0)), (I, S)) :=
  s_retz rfl rfl hb1
theorem b_X12_paint_0 {d : Nat} {r : PO × PM} {I : Nat → Nat → Int} {S : PS} {a0 : Nat} {x1 x2 z : Int} {I1 : Nat → Nat → Int} {S1 : PS} (c : Ca d mX12_isSpot [vR (some (22, 0, a0)), vI x1] ((up2 I a0 0 0), S) (.inl (some (vI z))) (I1, S1)) (k : Ev (d + 1) mX12_paint (10, [some (vR (some (22, 0, a0))), some (vI x1), some (vI x2)], [vI z], (I1, S1)) r) : Ev (d + 1) mX12_paint (0, [some (vR (some (22, 0, a0))), some (vI x1), some (vI x2)], [], (I, S)) r :=
  s_aload_n rfl rfl rfl <|
  s_iconst rfl rfl <|
  s_putI rfl rfl rfl <|
  s_aload_n rfl rfl rfl <|
  s_iload_n rfl rfl rfl <|
  s_cvI rfl rfl rfl rfl rfl c k
theorem b_X12_paint_10 {d : Nat} {r : PO × PM} {I : Nat → Nat → Int} {S : PS} {a0 : Nat} {x1 x2 xs0 : Int} (kt : xs0 ≠ 0 → Ev d mX12_paint (15, [some (vR (some (22, 0, a0))), some (vI x1), some (vI x2)], [], (I, S)) r) (kf : xs0 = 0 → Ev d mX12_paint (13, [some (vR (some (22, 0, a0))), some (vI x1), some (vI x2)], [], (I, S)) r) : Ev d mX12_paint (10, [some (vR (some (22, 0, a0))), some (vI x1), some (vI x2)], [vI xs0], (I, S)) r :=
  s_if_ne 15 rfl rfl kt kf
theorem b_X12_paint_13 {d : Nat} {I : Nat → Nat → Int} {S : PS} {a0 : Nat} {x1 x2 : Int} : Ev d mX12_paint (13, [some (vR (some (22, 0, a0))), some (vI x1), some (vI x2)], [], (I, S)) (.inl (some (vI 0)), (I, S)) :=
  s_iconst rfl rfl <|
  s_ret rfl rfl
theorem b_X12_paint_15 {d : Nat} {r : PO × PM} {I : Nat → Nat → Int} {S : PS} {a0 : Nat} {x1 x2 z : Int} {I1 : Nat → Nat → Int} {S1 : PS} (c : Ca d mX12_canPaint [vR (some (22, 0, a0)), vI 0, vI x1, vI x2] (I, S) (.inl (some (vI z))) (I1, S1)) (k : Ev (d + 1) mX12_paint (22, [some (vR (some (22, 0, a0))), some (vI x1), some (vI x2)], [vI z], (I1, S1)) r) : Ev (d + 1) mX12_paint (15, [some (vR (some (22, 0, a0))), some (vI x1), some (vI x2)], [], (I, S)) r :=
  s_aload_n rfl rfl rfl <|
  s_iconst rfl rfl <|
  s_iload_n rfl rfl rfl <|
  s_iload_n rfl rfl rfl <|
  s_cvI rfl rfl rfl rfl rfl c k
theorem b_X12_paint_22 {d : Nat} {r : PO × PM} {I : Nat → Nat → Int} {S : PS} {a0 : Nat} {x1 x2 xs0 : Int} (kt : xs0 ≠ 0 → Ev d mX12_paint (31, [some (vR (some (22, 0, a0))), some (vI x1), some (vI x2)], [], (I, S)) r) (kf : xs0 = 0 → Ev d mX12_paint (25, [some (vR (some (22, 0, a0))), some (vI x1), some (vI x2)], [], (I, S)) r) : Ev d mX12_paint (22, [some (vR (some (22, 0, a0))), some (vI x1), some (vI x2)], [vI xs0], (I, S)) r :=
  s_if_ne 31 rfl rfl kt kf
theorem b_X12_paint_25 {d : Nat} {r : PO × PM} {I : Nat → Nat → Int} {S : PS} {a0 : Nat} {x1 x2 z : Int} {I1 : Nat → Nat → Int} {S1 : PS} (c : Ca d mX12_refuses [vR (some (22, 0, a0)), vI 1] (I, S) (.inl (some (vI z))) (I1, S1)) (k : Ev (d + 1) mX12_paint (30, [some (vR (some (22, 0, a0))), some (vI x1), some (vI x2)], [vI z], (I1, S1)) r) : Ev (d + 1) mX12_paint (25, [some (vR (some (22, 0, a0))), some (vI x1), some (vI x2)], [], (I, S)) r :=
  s_aload_n rfl rfl rfl <|
  s_iconst rfl rfl <|
  s_cvI rfl rfl rfl rfl rfl c k
theorem b_X12_paint_30 {d : Nat} {I : Nat → Nat → Int} {S : PS} {a0 : Nat} {x1 x2 xs0 : Int} : Ev d mX12_paint (30, [some (vR (some (22, 0, a0))), some (vI x1), some (vI x2)], [vI xs0], (I, S)) (.inl (some (vI xs0)), (I, S)) :=
  s_ret rfl rfl
theorem b_X12_paint_31 {d : Nat} {r : PO × PM} {I : Nat → Nat → Int} {S : PS} {a0 : Nat} {x1 x2 : Int} {I1 : Nat → Nat → Int} {S1 : PS} (c : Ca d mX12_keeps [vR (some (22, 0, a0))] (I, S) (.inl none) (I1, S1)) (k : Ev (d + 1) mX12_paint (35, [some (vR (some (22, 0, a0))), some (vI x1), some (vI x2)], [], (I1, S1)) r) : Ev (d + 1) mX12_paint (31, [some (vR (some (22, 0, a0))), some (vI x1), some (vI x2)], [], (I, S)) r :=
  s_aload_n rfl rfl rfl <|
  s_cvV rfl rfl rfl rfl rfl c k
theorem b_X12_paint_35 {d : Nat} {r : PO × PM} {I : Nat → Nat → Int} {S : PS} {a0 p1 q1 : Nat} {x1 x2 z : Int} {I1 : Nat → Nat → Int} {S1 : PS} (hr1 : S.1 a0 39 = some (0, q1, p1)) (hi2 : 0 ≤ x1 ∧ x1 < (q1 : Nat)) (c : Ca d mX12_painted [vR (some (22, 0, a0)), vI 0] ((up2 I p1 (x1.toNat) x2), S) (.inl (some (vI z))) (I1, S1)) (k : Ev (d + 1) mX12_paint (47, [some (vR (some (22, 0, a0))), some (vI x1), some (vI x2)], [vI z], (I1, S1)) r) : Ev (d + 1) mX12_paint (35, [some (vR (some (22, 0, a0))), some (vI x1), some (vI x2)], [], (I, S)) r :=
  s_aload_n rfl rfl rfl <|
  s_getR rfl rfl rfl hr1 <|
  s_iload_n rfl rfl rfl <|
  s_iload_n rfl rfl rfl <|
  s_iast rfl hi2 <|
  s_aload_n rfl rfl rfl <|
  s_iconst rfl rfl <|
  s_cvI rfl rfl rfl rfl rfl c k
theorem b_X12_paint_47 {d : Nat} {I : Nat → Nat → Int} {S : PS} {a0 : Nat} {x1 x2 xs0 : Int} : Ev d mX12_paint (47, [some (vR (some (22, 0, a0))), some (vI x1), some (vI x2)], [vI xs0], (I, S)) (.inl (some (vI xs0)), (I, S)) :=
  s_ret rfl rfl
theorem b_X12_wash_0 {d : Nat} {r : PO × PM} {I : Nat → Nat → Int} {S : PS} {a0 : Nat} {x1 z : Int} {I1 : Nat → Nat → Int} {S1 : PS} (c : Ca d mX12_isSpot [vR (some (22, 0, a0)), vI x1] ((up2 I a0 0 0), S) (.inl (some (vI z))) (I1, S1)) (k : Ev (d + 1) mX12_wash (10, [some (vR (some (22, 0, a0))), some (vI x1), none], [vI z], (I1, S1)) r) : Ev (d + 1) mX12_wash (0, [some (vR (some (22, 0, a0))), some (vI x1), none], [], (I, S)) r :=
  s_aload_n rfl rfl rfl <|
  s_iconst rfl rfl <|
  s_putI rfl rfl rfl <|
  s_aload_n rfl rfl rfl <|
  s_iload_n rfl rfl rfl <|
  s_cvI rfl rfl rfl rfl rfl c k
theorem b_X12_wash_10 {d : Nat} {r : PO × PM} {I : Nat → Nat → Int} {S : PS} {a0 : Nat} {x1 xs0 : Int} (kt : xs0 ≠ 0 → Ev d mX12_wash (15, [some (vR (some (22, 0, a0))), some (vI x1), none], [], (I, S)) r) (kf : xs0 = 0 → Ev d mX12_wash (13, [some (vR (some (22, 0, a0))), some (vI x1), none], [], (I, S)) r) : Ev d mX12_wash (10, [some (vR (some (22, 0, a0))), some (vI x1), none], [vI xs0], (I, S)) r :=
  s_if_ne 15 rfl rfl kt kf
theorem b_X12_wash_13 {d : Nat} {I : Nat → Nat → Int} {S : PS} {a0 : Nat} {x1 : Int} : Ev d mX12_wash (13, [some (vR (some (22, 0, a0))), some (vI x1), none], [], (I, S)) (.inl (some (vI 0)), (I, S)) :=
  s_iconst rfl rfl <|
  s_ret rfl rfl
theorem b_X12_wash_15 {d : Nat} {r : PO × PM} {I : Nat → Nat → Int} {S : PS} {a0 p1 q1 : Nat} {x1 : Int} (hr1 : S.1 a0 39 = some (0, q1, p1)) (hi2 : 0 ≤ x1 ∧ x1 < (q1 : Nat)) (kt : I p1 x1.toNat ≠ (-1) → Ev d mX12_wash (33, [some (vR (some (22, 0, a0))), some (vI x1), some (vI (I p1 x1.toNat))], [], (I, S)) r) (kf : I p1 x1.toNat = (-1) → Ev d mX12_wash (27, [some (vR (some (22, 0, a0))), some (vI x1), some (vI (I p1 x1.toNat))], [], (I, S)) r) : Ev d mX12_wash (15, [some (vR (some (22, 0, a0))), some (vI x1), none], [], (I, S)) r :=
  s_aload_n rfl rfl rfl <|
  s_getR rfl rfl rfl hr1 <|
  s_iload_n rfl rfl rfl <|
  s_iald rfl rfl hi2 <|
  s_istore_n [some (vR (some (22, 0, a0))), some (vI x1), some (vI (I p1 x1.toNat))] rfl rfl <|
  s_iload_n rfl rfl rfl <|
  s_iconst rfl rfl <|
  s_icmp_ne 33 rfl rfl kt kf
theorem b_X12_wash_27 {d : Nat} {r : PO × PM} {I : Nat → Nat → Int} {S : PS} {a0 : Nat} {x1 x2 z : Int} {I1 : Nat → Nat → Int} {S1 : PS} (c : Ca d mX12_refuses [vR (some (22, 0, a0)), vI 1] (I, S) (.inl (some (vI z))) (I1, S1)) (k : Ev (d + 1) mX12_wash (32, [some (vR (some (22, 0, a0))), some (vI x1), some (vI x2)], [vI z], (I1, S1)) r) : Ev (d + 1) mX12_wash (27, [some (vR (some (22, 0, a0))), some (vI x1), some (vI x2)], [], (I, S)) r :=
  s_aload_n rfl rfl rfl <|
  s_iconst rfl rfl <|
  s_cvI rfl rfl rfl rfl rfl c k
theorem b_X12_wash_32 {d : Nat} {I : Nat → Nat → Int} {S : PS} {a0 : Nat} {x1 x2 xs0 : Int} : Ev d mX12_wash (32, [some (vR (some (22, 0, a0))), some (vI x1), some (vI x2)], [vI xs0], (I, S)) (.inl (some (vI xs0)), (I, S)) :=
  s_ret rfl rfl
theorem b_X12_wash_33 {d : Nat} {r : PO × PM} {I : Nat → Nat → Int} {S : PS} {a0 : Nat} {x1 x2 : Int} {I1 : Nat → Nat → Int} {S1 : PS} (c : Ca d mX12_keeps [vR (some (22, 0, a0))] (I, S) (.inl none) (I1, S1)) (k : Ev (d + 1) mX12_wash (37, [some (vR (some (22, 0, a0))), some (vI x1), some (vI x2)], [], (I1, S1)) r) : Ev (d + 1) mX12_wash (33, [some (vR (some (22, 0, a0))), some (vI x1), some (vI x2)], [], (I, S)) r :=
  s_aload_n rfl rfl rfl <|
  s_cvV rfl rfl rfl rfl rfl c k
theorem b_X12_wash_37 {d : Nat} {I : Nat → Nat → Int} {S : PS} {a0 p1 q1 : Nat} {x1 x2 : Int} (hr1 : S.1 a0 39 = some (0, q1, p1)) (hi2 : 0 ≤ x1 ∧ x1 < (q1 : Nat)) : Ev d mX12_wash (37, [some (vR (some (22, 0, a0))), some (vI x1), some (vI x2)], [], (I, S)) (.inl (some (vI x2)), ((up2 I p1 (x1.toNat) (-1)), S)) :=
  s_aload_n rfl rfl rfl <|
  s_getR rfl rfl rfl hr1 <|
  s_iload_n rfl rfl rfl <|
  s_iconst rfl rfl <|
  s_iast rfl hi2 <|
  s_iload_n rfl rfl rfl <|
  s_ret rfl rfl
theorem b_X12_swap_0 {d : Nat} {r : PO × PM} {I : Nat → Nat → Int} {S : PS} {a0 : Nat} {x1 x2 z : Int} {I1 : Nat → Nat → Int} {S1 : PS} (c : Ca d mX12_isSpot [vR (some (22, 0, a0)), vI x1] ((up2 I a0 0 0), S) (.inl (some (vI z))) (I1, S1)) (k : Ev (d + 1) mX12_swap (10, [some (vR (some (22, 0, a0))), some (vI x1), some (vI x2)], [vI z], (I1, S1)) r) : Ev (d + 1) mX12_swap (0, [some (vR (some (22, 0, a0))), some (vI x1), some (vI x2)], [], (I, S)) r :=
  s_aload_n rfl rfl rfl <|
  s_iconst rfl rfl <|
  s_putI rfl rfl rfl <|
  s_aload_n rfl rfl rfl <|
  s_iload_n rfl rfl rfl <|
  s_cvI rfl rfl rfl rfl rfl c k
theorem b_X12_swap_10 {d : Nat} {r : PO × PM} {I : Nat → Nat → Int} {S : PS} {a0 : Nat} {x1 x2 xs0 : Int} (kt : xs0 ≠ 0 → Ev d mX12_swap (15, [some (vR (some (22, 0, a0))), some (vI x1), some (vI x2)], [], (I, S)) r) (kf : xs0 = 0 → Ev d mX12_swap (13, [some (vR (some (22, 0, a0))), some (vI x1), some (vI x2)], [], (I, S)) r) : Ev d mX12_swap (10, [some (vR (some (22, 0, a0))), some (vI x1), some (vI x2)], [vI xs0], (I, S)) r :=
  s_if_ne 15 rfl rfl kt kf
theorem b_X12_swap_13 {d : Nat} {I : Nat → Nat → Int} {S : PS} {a0 : Nat} {x1 x2 : Int} : Ev d mX12_swap (13, [some (vR (some (22, 0, a0))), some (vI x1), some (vI x2)], [], (I, S)) (.inl (some (vI 0)), (I, S)) :=
  s_iconst rfl rfl <|
  s_ret rfl rfl
theorem b_X12_swap_15 {d : Nat} {r : PO × PM} {I : Nat → Nat → Int} {S : PS} {a0 : Nat} {x1 x2 z : Int} {I1 : Nat → Nat → Int} {S1 : PS} (c : Ca d mX12_canSwap [vR (some (22, 0, a0)), vI 0, vI x1, vI x2] (I, S) (.inl (some (vI z))) (I1, S1)) (k : Ev (d + 1) mX12_swap (22, [some (vR (some (22, 0, a0))), some (vI x1), some (vI x2)], [vI z], (I1, S1)) r) : Ev (d + 1) mX12_swap (15, [some (vR (some (22, 0, a0))), some (vI x1), some (vI x2)], [], (I, S)) r :=
  s_aload_n rfl rfl rfl <|
  s_iconst rfl rfl <|
  s_iload_n rfl rfl rfl <|
  s_iload_n rfl rfl rfl <|
  s_cvI rfl rfl rfl rfl rfl c k
theorem b_X12_swap_22 {d : Nat} {r : PO × PM} {I : Nat → Nat → Int} {S : PS} {a0 : Nat} {x1 x2 xs0 : Int} (kt : xs0 ≠ 0 → Ev d mX12_swap (31, [some (vR (some (22, 0, a0))), some (vI x1), some (vI x2)], [], (I, S)) r) (kf : xs0 = 0 → Ev d mX12_swap (25, [some (vR (some (22, 0, a0))), some (vI x1), some (vI x2)], [], (I, S)) r) : Ev d mX12_swap (22, [some (vR (some (22, 0, a0))), some (vI x1), some (vI x2)], [vI xs0], (I, S)) r :=
  s_if_ne 31 rfl rfl kt kf
theorem b_X12_swap_25 {d : Nat} {r : PO × PM} {I : Nat → Nat → Int} {S : PS} {a0 : Nat} {x1 x2 z : Int} {I1 : Nat → Nat → Int} {S1 : PS} (c : Ca d mX12_refuses [vR (some (22, 0, a0)), vI 1] (I, S) (.inl (some (vI z))) (I1, S1)) (k : Ev (d + 1) mX12_swap (30, [some (vR (some (22, 0, a0))), some (vI x1), some (vI x2)], [vI z], (I1, S1)) r) : Ev (d + 1) mX12_swap (25, [some (vR (some (22, 0, a0))), some (vI x1), some (vI x2)], [], (I, S)) r :=
  s_aload_n rfl rfl rfl <|
  s_iconst rfl rfl <|
  s_cvI rfl rfl rfl rfl rfl c k
theorem b_X12_swap_30 {d : Nat} {I : Nat → Nat → Int} {S : PS} {a0 : Nat} {x1 x2 xs0 : Int} : Ev d mX12_swap (30, [some (vR (some (22, 0, a0))), some (vI x1), some (vI x2)], [vI xs0], (I, S)) (.inl (some (vI xs0)), (I, S)) :=
  s_ret rfl rfl
theorem b_X12_swap_31 {d : Nat} {r : PO × PM} {I : Nat → Nat → Int} {S : PS} {a0 : Nat} {x1 x2 : Int} {I1 : Nat → Nat → Int} {S1 : PS} (c : Ca d mX12_keeps [vR (some (22, 0, a0))] (I, S) (.inl none) (I1, S1)) (k : Ev (d + 1) mX12_swap (35, [some (vR (some (22, 0, a0))), some (vI x1), some (vI x2)], [], (I1, S1)) r) : Ev (d + 1) mX12_swap (31, [some (vR (some (22, 0, a0))), some (vI x1), some (vI x2)], [], (I, S)) r :=
  s_aload_n rfl rfl rfl <|
  s_cvV rfl rfl rfl rfl rfl c k
theorem b_X12_swap_35 {d : Nat} {r : PO × PM} {I : Nat → Nat → Int} {S : PS} {a0 : Nat} {x1 x2 z : Int} {I1 : Nat → Nat → Int} {S1 : PS} (c : Ca d mX12_swaps [vR (some (22, 0, a0)), vI 0, vI x1, vI x2] (I, S) (.inl (some (vI z))) (I1, S1)) (k : Ev (d + 1) mX12_swap (42, [some (vR (some (22, 0, a0))), some (vI x1), some (vI x2)], [vI z], (I1, S1)) r) : Ev (d + 1) mX12_swap (35, [some (vR (some (22, 0, a0))), some (vI x1), some (vI x2)], [], (I, S)) r :=
  s_aload_n rfl rfl rfl <|
  s_iconst rfl rfl <|
  s_iload_n rfl rfl rfl <|
  s_iload_n rfl rfl rfl <|
  s_cvI rfl rfl rfl rfl rfl c k
theorem b_X12_swap_42 {d : Nat} {I : Nat → Nat → Int} {S : PS} {a0 : Nat} {x1 x2 xs0 : Int} : Ev d mX12_swap (42, [some (vR (some (22, 0, a0))), some (vI x1), some (vI x2)], [vI xs0], (I, S)) (.inl (some (vI xs0)), (I, S)) :=
  s_ret rfl rfl
theorem b_X12_tune_0 {d : Nat} {r : PO × PM} {I : Nat → Nat → Int} {S : PS} {a0 : Nat} {x1 x2 : Int} (kt : x1 < 0 → Ev d mX12_tune (22, [some (vR (some (22, 0, a0))), some (vI x1), some (vI x2), none], [vR (some (22, 0, a0))], ((up2 I a0 0 0), S)) r) (kf : 0 ≤ x1 → Ev d mX12_tune (10, [some (vR (some (22, 0, a0))), some (vI x1), some (vI x2), none], [vR (some (22, 0, a0))], ((up2 I a0 0 0), S)) r) : Ev d mX12_tune (0, [some (vR (some (22, 0, a0))), some (vI x1), some (vI x2), none], [], (I, S)) r :=
  s_aload_n rfl rfl rfl <|
  s_iconst rfl rfl <|
  s_putI rfl rfl rfl <|
  s_aload_n rfl rfl rfl <|
  s_iload_n rfl rfl rfl <|
  s_if_lt 22 rfl rfl kt kf
theorem b_X12_tune_10 {d : Nat} {r : PO × PM} {I : Nat → Nat → Int} {S : PS} {a0 as0 : Nat} {x1 x2 : Int} (kt : I a0 14 ≤ x1 → Ev d mX12_tune (22, [some (vR (some (22, 0, a0))), some (vI x1), some (vI x2), none], [vR (some (22, 0, as0))], (I, S)) r) (kf : x1 < I a0 14 → Ev d mX12_tune (18, [some (vR (some (22, 0, a0))), some (vI x1), some (vI x2), none], [vR (some (22, 0, as0))], (I, S)) r) : Ev d mX12_tune (10, [some (vR (some (22, 0, a0))), some (vI x1), some (vI x2), none], [vR (some (22, 0, as0))], (I, S)) r :=
  s_iload_n rfl rfl rfl <|
  s_aload_n rfl rfl rfl <|
  s_getI rfl rfl rfl <|
  s_icmp_ge 22 rfl rfl kt kf
theorem b_X12_tune_18 {d : Nat} {r : PO × PM} {I : Nat → Nat → Int} {S : PS} {a0 as0 : Nat} {x1 x2 : Int} (k : Ev d mX12_tune (23, [some (vR (some (22, 0, a0))), some (vI x1), some (vI x2), none], [vI 1, vR (some (22, 0, as0))], (I, S)) r) : Ev d mX12_tune (18, [some (vR (some (22, 0, a0))), some (vI x1), some (vI x2), none], [vR (some (22, 0, as0))], (I, S)) r :=
  s_iconst rfl rfl <|
  s_goto 23 rfl rfl k
theorem b_X12_tune_22 {d : Nat} {r : PO × PM} {I : Nat → Nat → Int} {S : PS} {a0 as0 : Nat} {x1 x2 : Int} (k : Ev d mX12_tune (23, [some (vR (some (22, 0, a0))), some (vI x1), some (vI x2), none], [vI 0, vR (some (22, 0, as0))], (I, S)) r) : Ev d mX12_tune (22, [some (vR (some (22, 0, a0))), some (vI x1), some (vI x2), none], [vR (some (22, 0, as0))], (I, S)) r :=
  s_iconst rfl rfl <|
  k
theorem b_X12_tune_23 {d : Nat} {r : PO × PM} {I : Nat → Nat → Int} {S : PS} {a0 as0 : Nat} {x1 x2 xs1 z : Int} {I1 : Nat → Nat → Int} {S1 : PS} (c : Ca d mX12_right [vR (some (22, 0, as0)), vI xs1, vI 1] (I, S) (.inl (some (vI z))) (I1, S1)) (k : Ev (d + 1) mX12_tune (27, [some (vR (some (22, 0, a0))), some (vI x1), some (vI x2), none], [vI z], (I1, S1)) r) : Ev (d + 1) mX12_tune (23, [some (vR (some (22, 0, a0))), some (vI x1), some (vI x2), none], [vI xs1, vR (some (22, 0, as0))], (I, S)) r :=
  s_iconst rfl rfl <|
  s_cvI rfl rfl rfl rfl rfl c k
theorem b_X12_tune_27 {d : Nat} {r : PO × PM} {I : Nat → Nat → Int} {S : PS} {a0 : Nat} {x1 x2 xs0 : Int} (kt : xs0 ≠ 0 → Ev d mX12_tune (32, [some (vR (some (22, 0, a0))), some (vI x1), some (vI x2), none], [], (I, S)) r) (kf : xs0 = 0 → Ev d mX12_tune (30, [some (vR (some (22, 0, a0))), some (vI x1), some (vI x2), none], [], (I, S)) r) : Ev d mX12_tune (27, [some (vR (some (22, 0, a0))), some (vI x1), some (vI x2), none], [vI xs0], (I, S)) r :=
  s_if_ne 32 rfl rfl kt kf
theorem b_X12_tune_30 {d : Nat} {I : Nat → Nat → Int} {S : PS} {a0 : Nat} {x1 x2 : Int} : Ev d mX12_tune (30, [some (vR (some (22, 0, a0))), some (vI x1), some (vI x2), none], [], (I, S)) (.inl (some (vI 0)), (I, S)) :=
  s_iconst rfl rfl <|
  s_ret rfl rfl
theorem b_X12_tune_32 {d : Nat} {r : PO × PM} {I : Nat → Nat → Int} {S : PS} {a0 p1 q1 : Nat} {x1 x2 z : Int} {I1 : Nat → Nat → Int} {S1 : PS} (hr1 : S.1 a0 39 = some (0, q1, p1)) (ho2 : -2147483648 ≤ 12 + x1 ∧ 12 + x1 ≤ 2147483647) (hi3 : 0 ≤ 12 + x1 ∧ 12 + x1 < (q1 : Nat)) (c : Ca d mX12_within [vI x2, vI 1, vI 99] (I, S) (.inl (some (vI z))) (I1, S1)) (k : Ev (d + 1) mX12_tune (49, [some (vR (some (22, 0, a0))), some (vI x1), some (vI x2), some (vI (I p1 (12 + x1).toNat))], [vI z], (I1, S1)) r) : Ev (d + 1) mX12_tune (32, [some (vR (some (22, 0, a0))), some (vI x1), some (vI x2), none], [], (I, S)) r :=
  s_aload_n rfl rfl rfl <|
  s_getR rfl rfl rfl hr1 <|
  s_bipush rfl rfl <|
  s_iload_n rfl rfl rfl <|
  s_iaddp rfl ho2 <|
  s_iald rfl rfl hi3 <|
  s_istore_n [some (vR (some (22, 0, a0))), some (vI x1), some (vI x2), some (vI (I p1 (12 + x1).toNat))] rfl rfl <|
  s_iload_n rfl rfl rfl <|
  s_iconst rfl rfl <|
  s_bipush rfl rfl <|
  s_csI rfl rfl rfl rfl rfl rfl c k
theorem b_X12_tune_49 {d : Nat} {r : PO × PM} {I : Nat → Nat → Int} {S : PS} {a0 : Nat} {x1 x2 x3 xs0 : Int} (kt : xs0 = 0 → Ev d mX12_tune (57, [some (vR (some (22, 0, a0))), some (vI x1), some (vI x2), some (vI x3)], [], (I, S)) r) (kf : xs0 ≠ 0 → Ev d mX12_tune (52, [some (vR (some (22, 0, a0))), some (vI x1), some (vI x2), some (vI x3)], [], (I, S)) r) : Ev d mX12_tune (49, [some (vR (some (22, 0, a0))), some (vI x1), some (vI x2), some (vI x3)], [vI xs0], (I, S)) r :=
  s_if_eq 57 rfl rfl kt kf
theorem b_X12_tune_52 {d : Nat} {r : PO × PM} {I : Nat → Nat → Int} {S : PS} {a0 : Nat} {x1 x2 x3 : Int} (kt : x3 ≠ x2 → Ev d mX12_tune (63, [some (vR (some (22, 0, a0))), some (vI x1), some (vI x2), some (vI x3)], [], (I, S)) r) (kf : x3 = x2 → Ev d mX12_tune (57, [some (vR (some (22, 0, a0))), some (vI x1), some (vI x2), some (vI x3)], [], (I, S)) r) : Ev d mX12_tune (52, [some (vR (some (22, 0, a0))), some (vI x1), some (vI x2), some (vI x3)], [], (I, S)) r :=
  s_iload_n rfl rfl rfl <|
  s_iload_n rfl rfl rfl <|
  s_icmp_ne 63 rfl rfl kt kf
theorem b_X12_tune_57 {d : Nat} {r : PO × PM} {I : Nat → Nat → Int} {S : PS} {a0 : Nat} {x1 x2 x3 z : Int} {I1 : Nat → Nat → Int} {S1 : PS} (c : Ca d mX12_refuses [vR (some (22, 0, a0)), vI 1] (I, S) (.inl (some (vI z))) (I1, S1)) (k : Ev (d + 1) mX12_tune (62, [some (vR (some (22, 0, a0))), some (vI x1), some (vI x2), some (vI x3)], [vI z], (I1, S1)) r) : Ev (d + 1) mX12_tune (57, [some (vR (some (22, 0, a0))), some (vI x1), some (vI x2), some (vI x3)], [], (I, S)) r :=
  s_aload_n rfl rfl rfl <|
  s_iconst rfl rfl <|
  s_cvI rfl rfl rfl rfl rfl c k
theorem b_X12_tune_62 {d : Nat} {I : Nat → Nat → Int} {S : PS} {a0 : Nat} {x1 x2 x3 xs0 : Int} : Ev d mX12_tune (62, [some (vR (some (22, 0, a0))), some (vI x1), some (vI x2), some (vI x3)], [vI xs0], (I, S)) (.inl (some (vI xs0)), (I, S)) :=
  s_ret rfl rfl
theorem b_X12_tune_63 {d : Nat} {r : PO × PM} {I : Nat → Nat → Int} {S : PS} {a0 : Nat} {x1 x2 x3 : Int} {I1 : Nat → Nat → Int} {S1 : PS} (c : Ca d mX12_keeps [vR (some (22, 0, a0))] (I, S) (.inl none) (I1, S1)) (k : Ev (d + 1) mX12_tune (67, [some (vR (some (22, 0, a0))), some (vI x1), some (vI x2), some (vI x3)], [], (I1, S1)) r) : Ev (d + 1) mX12_tune (63, [some (vR (some (22, 0, a0))), some (vI x1), some (vI x2), some (vI x3)], [], (I, S)) r :=
  s_aload_n rfl rfl rfl <|
  s_cvV rfl rfl rfl rfl rfl c k
theorem b_X12_tune_67 {d : Nat} {I : Nat → Nat → Int} {S : PS} {a0 p1 q1 : Nat} {x1 x2 x3 : Int} (hr1 : S.1 a0 39 = some (0, q1, p1)) (ho2 : -2147483648 ≤ 12 + x1 ∧ 12 + x1 ≤ 2147483647) (hi3 : 0 ≤ 12 + x1 ∧ 12 + x1 < (q1 : Nat)) : Ev d mX12_tune (67, [some (vR (some (22, 0, a0))), some (vI x1), some (vI x2), some (vI x3)], [], (I, S)) (.inl (some (vI x3)), ((up2 I p1 ((12 + x1).toNat) x2), S)) :=
  s_aload_n rfl rfl rfl <|
  s_getR rfl rfl rfl hr1 <|
  s_bipush rfl rfl <|
  s_iload_n rfl rfl rfl <|
  s_iaddp rfl ho2 <|
  s_iload_n rfl rfl rfl <|
  s_iast rfl hi3 <|
  s_iload_n rfl rfl rfl <|
  s_ret rfl rfl
theorem b_X12_chain_0 {d : Nat} {r : PO × PM} {I : Nat → Nat → Int} {S : PS} {a0 : Nat} {x1 x2 z : Int} {I1 : Nat → Nat → Int} {S1 : PS} (c : Ca d mX12_isSpot [vR (some (22, 0, a0)), vI x1] ((up2 I a0 0 0), S) (.inl (some (vI z))) (I1, S1)) (k : Ev (d + 1) mX12_chain (10, [some (vR (some (22, 0, a0))), some (vI x1), some (vI x2)], [vI z], (I1, S1)) r) : Ev (d + 1) mX12_chain (0, [some (vR (some (22, 0, a0))), some (vI x1), some (vI x2)], [], (I, S)) r :=
  s_aload_n rfl rfl rfl <|
  s_iconst rfl rfl <|
  s_putI rfl rfl rfl <|
  s_aload_n rfl rfl rfl <|
  s_iload_n rfl rfl rfl <|
  s_cvI rfl rfl rfl rfl rfl c k
theorem b_X12_chain_10 {d : Nat} {r : PO × PM} {I : Nat → Nat → Int} {S : PS} {a0 : Nat} {x1 x2 xs0 : Int} (kt : xs0 = 0 → Ev d mX12_chain (27, [some (vR (some (22, 0, a0))), some (vI x1), some (vI x2)], [], (I, S)) r) (kf : xs0 ≠ 0 → Ev d mX12_chain (13, [some (vR (some (22, 0, a0))), some (vI x1), some (vI x2)], [], (I, S)) r) : Ev d mX12_chain (10, [some (vR (some (22, 0, a0))), some (vI x1), some (vI x2)], [vI xs0], (I, S)) r :=
  s_if_eq 27 rfl rfl kt kf
theorem b_X12_chain_13 {d : Nat} {r : PO × PM} {I : Nat → Nat → Int} {S : PS} {a0 : Nat} {x1 x2 z : Int} {I1 : Nat → Nat → Int} {S1 : PS} (c : Ca d mX12_within [vI x2, vI 0, vI 3] (I, S) (.inl (some (vI z))) (I1, S1)) (k : Ev (d + 1) mX12_chain (20, [some (vR (some (22, 0, a0))), some (vI x1), some (vI x2)], [vI z, vR (some (22, 0, a0))], (I1, S1)) r) : Ev (d + 1) mX12_chain (13, [some (vR (some (22, 0, a0))), some (vI x1), some (vI x2)], [], (I, S)) r :=
  s_aload_n rfl rfl rfl <|
  s_iload_n rfl rfl rfl <|
  s_iconst rfl rfl <|
  s_iconst rfl rfl <|
  s_csI rfl rfl rfl rfl rfl rfl c k
theorem b_X12_chain_20 {d : Nat} {r : PO × PM} {I : Nat → Nat → Int} {S : PS} {a0 as0 : Nat} {x1 x2 xs1 z : Int} {I1 : Nat → Nat → Int} {S1 : PS} (c : Ca d mX12_right [vR (some (22, 0, as0)), vI xs1, vI 2] (I, S) (.inl (some (vI z))) (I1, S1)) (k : Ev (d + 1) mX12_chain (24, [some (vR (some (22, 0, a0))), some (vI x1), some (vI x2)], [vI z], (I1, S1)) r) : Ev (d + 1) mX12_chain (20, [some (vR (some (22, 0, a0))), some (vI x1), some (vI x2)], [vI xs1, vR (some (22, 0, as0))], (I, S)) r :=
  s_iconst rfl rfl <|
  s_cvI rfl rfl rfl rfl rfl c k
theorem b_X12_chain_24 {d : Nat} {r : PO × PM} {I : Nat → Nat → Int} {S : PS} {a0 : Nat} {x1 x2 xs0 : Int} (kt : xs0 ≠ 0 → Ev d mX12_chain (29, [some (vR (some (22, 0, a0))), some (vI x1), some (vI x2)], [], (I, S)) r) (kf : xs0 = 0 → Ev d mX12_chain (27, [some (vR (some (22, 0, a0))), some (vI x1), some (vI x2)], [], (I, S)) r) : Ev d mX12_chain (24, [some (vR (some (22, 0, a0))), some (vI x1), some (vI x2)], [vI xs0], (I, S)) r :=
  s_if_ne 29 rfl rfl kt kf
theorem b_X12_chain_27 {d : Nat} {I : Nat → Nat → Int} {S : PS} {a0 : Nat} {x1 x2 : Int} : Ev d mX12_chain (27, [some (vR (some (22, 0, a0))), some (vI x1), some (vI x2)], [], (I, S)) (.inl (some (vI 0)), (I, S)) :=
  s_iconst rfl rfl <|
  s_ret rfl rfl
theorem b_X12_chain_29 {d : Nat} {r : PO × PM} {I : Nat → Nat → Int} {S : PS} {a0 : Nat} {x1 x2 z : Int} {I1 : Nat → Nat → Int} {S1 : PS} (c : Ca d mX12_canSwap [vR (some (22, 0, a0)), vI 0, vI x1, vI x2] (I, S) (.inl (some (vI z))) (I1, S1)) (k : Ev (d + 1) mX12_chain (36, [some (vR (some (22, 0, a0))), some (vI x1), some (vI x2)], [vI z], (I1, S1)) r) : Ev (d + 1) mX12_chain (29, [some (vR (some (22, 0, a0))), some (vI x1), some (vI x2)], [], (I, S)) r :=
  s_aload_n rfl rfl rfl <|
  s_iconst rfl rfl <|
  s_iload_n rfl rfl rfl <|
  s_iload_n rfl rfl rfl <|
  s_cvI rfl rfl rfl rfl rfl c k
theorem b_X12_chain_36 {d : Nat} {r : PO × PM} {I : Nat → Nat → Int} {S : PS} {a0 : Nat} {x1 x2 xs0 : Int} (kt : xs0 = 0 → Ev d mX12_chain (49, [some (vR (some (22, 0, a0))), some (vI x1), some (vI x2)], [], (I, S)) r) (kf : xs0 ≠ 0 → Ev d mX12_chain (39, [some (vR (some (22, 0, a0))), some (vI x1), some (vI x2)], [], (I, S)) r) : Ev d mX12_chain (36, [some (vR (some (22, 0, a0))), some (vI x1), some (vI x2)], [vI xs0], (I, S)) r :=
  s_if_eq 49 rfl rfl kt kf
theorem b_X12_chain_39 {d : Nat} {r : PO × PM} {I : Nat → Nat → Int} {S : PS} {a0 : Nat} {x1 x2 z : Int} {I1 : Nat → Nat → Int} {S1 : PS} (c : Ca d mX12_chainOf [vR (some (22, 0, a0)), vI 0, vI x1, vI x2] (I, S) (.inl (some (vI z))) (I1, S1)) (k : Ev (d + 1) mX12_chain (46, [some (vR (some (22, 0, a0))), some (vI x1), some (vI x2)], [vI z], (I1, S1)) r) : Ev (d + 1) mX12_chain (39, [some (vR (some (22, 0, a0))), some (vI x1), some (vI x2)], [], (I, S)) r :=
  s_aload_n rfl rfl rfl <|
  s_iconst rfl rfl <|
  s_iload_n rfl rfl rfl <|
  s_iload_n rfl rfl rfl <|
  s_cvI rfl rfl rfl rfl rfl c k
theorem b_X12_chain_46 {d : Nat} {r : PO × PM} {I : Nat → Nat → Int} {S : PS} {a0 : Nat} {x1 x2 xs0 : Int} (k : Ev d mX12_chain (50, [some (vR (some (22, 0, a0))), some (vI x1), some (vI x2)], [vI xs0], (I, S)) r) : Ev d mX12_chain (46, [some (vR (some (22, 0, a0))), some (vI x1), some (vI x2)], [vI xs0], (I, S)) r :=
  s_goto 50 rfl rfl k
theorem b_X12_chain_49 {d : Nat} {r : PO × PM} {I : Nat → Nat → Int} {S : PS} {a0 : Nat} {x1 x2 : Int} (k : Ev d mX12_chain (50, [some (vR (some (22, 0, a0))), some (vI x1), some (vI x2)], [vI 0], (I, S)) r) : Ev d mX12_chain (49, [some (vR (some (22, 0, a0))), some (vI x1), some (vI x2)], [], (I, S)) r :=
  s_iconst rfl rfl <|
  k
theorem b_X12_chain_50 {d : Nat} {I : Nat → Nat → Int} {S : PS} {a0 : Nat} {x1 x2 xs0 : Int} : Ev d mX12_chain (50, [some (vR (some (22, 0, a0))), some (vI x1), some (vI x2)], [vI xs0], (I, S)) (.inl (some (vI xs0)), (I, S)) :=
  s_ret rfl rfl
theorem b_X12_laysOpen_0 {d : Nat} {r : PO × PM} {I : Nat → Nat → Int} {S : PS} {a0 : Nat} {I1 : Nat → Nat → Int} {S1 : PS} (c : Ca d mX12_tries [vR (some (22, 0, a0))] ((up2 I a0 44 0), S) (.inl none) (I1, S1)) (k : Ev (d + 1) mX12_laysOpen (9, [some (vR (some (22, 0, a0))), none], [], (I1, S1)) r) : Ev (d + 1) mX12_laysOpen (0, [some (vR (some (22, 0, a0))), none], [], (I, S)) r :=
  s_aload_n rfl rfl rfl <|
  s_iconst rfl rfl <|
  s_putI rfl rfl rfl <|
  s_aload_n rfl rfl rfl <|
  s_cvV rfl rfl rfl rfl rfl c k
theorem b_X12_laysOpen_9 {d : Nat} {r : PO × PM} {I : Nat → Nat → Int} {S : PS} {a0 : Nat} (k : Ev d mX12_laysOpen (11, [some (vR (some (22, 0, a0))), some (vI 0)], [], (I, S)) r) : Ev d mX12_laysOpen (9, [some (vR (some (22, 0, a0))), none], [], (I, S)) r :=
  s_iconst rfl rfl <|
  s_istore_n [some (vR (some (22, 0, a0))), some (vI 0)] rfl rfl <|
  k
theorem b_X12_laysOpen_11 {d : Nat} {r : PO × PM} {I : Nat → Nat → Int} {S : PS} {a0 : Nat} {x1 : Int} (kt : I a0 15 ≤ x1 → Ev d mX12_laysOpen (58, [some (vR (some (22, 0, a0))), some (vI x1)], [], (I, S)) r) (kf : x1 < I a0 15 → Ev d mX12_laysOpen (19, [some (vR (some (22, 0, a0))), some (vI x1)], [], (I, S)) r) : Ev d mX12_laysOpen (11, [some (vR (some (22, 0, a0))), some (vI x1)], [], (I, S)) r :=
  s_iload_n rfl rfl rfl <|
  s_aload_n rfl rfl rfl <|
  s_getI rfl rfl rfl <|
  s_icmp_ge 58 rfl rfl kt kf
theorem b_X12_laysOpen_19 {d : Nat} {r : PO × PM} {I : Nat → Nat → Int} {S : PS} {a0 p1 q1 : Nat} {x1 : Int} (hr1 : S.1 a0 39 = some (0, q1, p1)) (hi2 : 0 ≤ x1 ∧ x1 < (q1 : Nat)) (kt : I p1 x1.toNat = (-1) → Ev d mX12_laysOpen (32, [some (vR (some (22, 0, a0))), some (vI x1)], [], (I, S)) r) (kf : I p1 x1.toNat ≠ (-1) → Ev d mX12_laysOpen (29, [some (vR (some (22, 0, a0))), some (vI x1)], [], (I, S)) r) : Ev d mX12_laysOpen (19, [some (vR (some (22, 0, a0))), some (vI x1)], [], (I, S)) r :=
  s_aload_n rfl rfl rfl <|
  s_getR rfl rfl rfl hr1 <|
  s_iload_n rfl rfl rfl <|
  s_iald rfl rfl hi2 <|
  s_iconst rfl rfl <|
  s_icmp_eq 32 rfl rfl kt kf
theorem b_X12_laysOpen_29 {d : Nat} {r : PO × PM} {I : Nat → Nat → Int} {S : PS} {a0 : Nat} {x1 : Int} (k : Ev d mX12_laysOpen (52, [some (vR (some (22, 0, a0))), some (vI x1)], [], (I, S)) r) : Ev d mX12_laysOpen (29, [some (vR (some (22, 0, a0))), some (vI x1)], [], (I, S)) r :=
  s_goto 52 rfl rfl k
theorem b_X12_laysOpen_32 {d : Nat} {r : PO × PM} {I : Nat → Nat → Int} {S : PS} {a0 p1 q1 : Nat} {x1 : Int} (hr1 : S.1 a0 42 = some (0, q1, p1)) (hi2 : 0 ≤ I a0 44 ∧ I a0 44 < (q1 : Nat)) (ho3 : -2147483648 ≤ ((up2 I p1 ((I a0 44).toNat) x1) a0 44) + 1 ∧ ((up2 I p1 ((I a0 44).toNat) x1) a0 44) + 1 ≤ 2147483647) (k : Ev d mX12_laysOpen (52, [some (vR (some (22, 0, a0))), some (vI x1)], [], ((up2 (up2 I p1 ((I a0 44).toNat) x1) a0 44 (((up2 I p1 ((I a0 44).toNat) x1) a0 44) + 1)), S)) r) : Ev d mX12_laysOpen (32, [some (vR (some (22, 0, a0))), some (vI x1)], [], (I, S)) r :=
  s_aload_n rfl rfl rfl <|
  s_getR rfl rfl rfl hr1 <|
  s_aload_n rfl rfl rfl <|
  s_getI rfl rfl rfl <|
  s_iload_n rfl rfl rfl <|
  s_iast rfl hi2 <|
  s_aload_n rfl rfl rfl <|
  s_dup rfl rfl <|
  s_getI rfl rfl rfl <|
  s_iconst rfl rfl <|
  s_iaddp rfl ho3 <|
  s_putI rfl rfl rfl <|
  k
theorem b_X12_laysOpen_52 {d : Nat} {r : PO × PM} {I : Nat → Nat → Int} {S : PS} {a0 : Nat} {x1 : Int} (ho1 : -2147483648 ≤ x1 + 1 ∧ x1 + 1 ≤ 2147483647) (k : Ev d mX12_laysOpen (11, [some (vR (some (22, 0, a0))), some (vI (x1 + 1))], [], (I, S)) r) : Ev d mX12_laysOpen (52, [some (vR (some (22, 0, a0))), some (vI x1)], [], (I, S)) r :=
  s_iincp [some (vR (some (22, 0, a0))), some (vI (x1 + 1))] rfl rfl ho1 rfl <|
  s_goto 11 rfl rfl k
theorem b_X12_laysOpen_58 {d : Nat} {I : Nat → Nat → Int} {S : PS} {a0 : Nat} {x1 : Int} : Ev d mX12_laysOpen (58, [some (vR (some (22, 0, a0))), some (vI x1)], [], (I, S)) (.inl none, (I, S)) :=
  s_vret rfl rfl
theorem b_X12_solves_0 {d : Nat} {r : PO × PM} {I : Nat → Nat → Int} {S : PS} {a0 : Nat} {x1 : Int} {I1 : Nat → Nat → Int} {S1 : PS} (c : Ca d mX12_laysOpen [vR (some (22, 0, a0))] (I, S) (.inl none) (I1, S1)) (k : Ev (d + 1) mX12_solves (4, [some (vR (some (22, 0, a0))), some (vI x1), none, none, none], [], (I1, S1)) r) : Ev (d + 1) mX12_solves (0, [some (vR (some (22, 0, a0))), some (vI x1), none, none, none], [], (I, S)) r :=
  s_aload_n rfl rfl rfl <|
  s_cvV rfl rfl rfl rfl rfl c k
theorem b_X12_solves_4 {d : Nat} {r : PO × PM} {I : Nat → Nat → Int} {S : PS} {a0 : Nat} {x1 : Int} (kt : I a0 44 ≠ 0 → Ev d mX12_solves (13, [some (vR (some (22, 0, a0))), some (vI x1), none, none, none], [], (I, S)) r) (kf : I a0 44 = 0 → Ev d mX12_solves (11, [some (vR (some (22, 0, a0))), some (vI x1), none, none, none], [], (I, S)) r) : Ev d mX12_solves (4, [some (vR (some (22, 0, a0))), some (vI x1), none, none, none], [], (I, S)) r :=
  s_aload_n rfl rfl rfl <|
  s_getI rfl rfl rfl <|
  s_if_ne 13 rfl rfl kt kf
theorem b_X12_solves_11 {d : Nat} {I : Nat → Nat → Int} {S : PS} {a0 : Nat} {x1 : Int} : Ev d mX12_solves (11, [some (vR (some (22, 0, a0))), some (vI x1), none, none, none], [], (I, S)) (.inl (some (vI 1)), (I, S)) :=
  s_iconst rfl rfl <|
  s_ret rfl rfl
theorem b_X12_solves_13 {d : Nat} {r : PO × PM} {I : Nat → Nat → Int} {S : PS} {a0 p1 q1 : Nat} {x1 : Int} (hr1 : S.1 a0 43 = some (0, q1, p1)) (hi2 : 0 < q1) (k : Ev d mX12_solves (24, [some (vR (some (22, 0, a0))), some (vI x1), some (vI 0), some (vI 0), none], [], ((up2 I p1 0 (-1)), S)) r) : Ev d mX12_solves (13, [some (vR (some (22, 0, a0))), some (vI x1), none, none, none], [], (I, S)) r :=
  s_iconst rfl rfl <|
  s_istore_n [some (vR (some (22, 0, a0))), some (vI x1), some (vI 0), none, none] rfl rfl <|
  s_iconst rfl rfl <|
  s_istore_n [some (vR (some (22, 0, a0))), some (vI x1), some (vI 0), some (vI 0), none] rfl rfl <|
  s_aload_n rfl rfl rfl <|
  s_getR rfl rfl rfl hr1 <|
  s_iconst rfl rfl <|
  s_iconst rfl rfl <|
  s_iast rfl (p_lit (k := 0) hi2) <|
  k
theorem b_X12_solves_24 {d : Nat} {r : PO × PM} {I : Nat → Nat → Int} {S : PS} {a0 : Nat} {x1 x2 x3 : Int} (kt : x3 < 0 → Ev d mX12_solves (141, [some (vR (some (22, 0, a0))), some (vI x1), some (vI x2), some (vI x3), none], [], (I, S)) r) (kf : 0 ≤ x3 → Ev d mX12_solves (28, [some (vR (some (22, 0, a0))), some (vI x1), some (vI x2), some (vI x3), none], [], (I, S)) r) : Ev d mX12_solves (24, [some (vR (some (22, 0, a0))), some (vI x1), some (vI x2), some (vI x3), none], [], (I, S)) r :=
  s_iload_n rfl rfl rfl <|
  s_if_lt 141 rfl rfl kt kf
theorem b_X12_solves_28 {d : Nat} {r : PO × PM} {I : Nat → Nat → Int} {S : PS} {a0 p1 q1 p3 q3 p6 q6 : Nat} {x1 x2 x3 : Int} (hr1 : S.1 a0 42 = some (0, q1, p1)) (hi2 : 0 ≤ x3 ∧ x3 < (q1 : Nat)) (hr3 : S.1 a0 39 = some (0, q3, p3)) (ho4 : -2147483648 ≤ 18 + (I p1 x3.toNat) ∧ 18 + (I p1 x3.toNat) ≤ 2147483647) (hi5 : 0 ≤ 18 + (I p1 x3.toNat) ∧ 18 + (I p1 x3.toNat) < (q3 : Nat)) (hr6 : S.1 a0 43 = some (0, q6, p6)) (hi7 : 0 ≤ x3 ∧ x3 < (q6 : Nat)) (ho8 : -2147483648 ≤ ((up2 I p3 ((18 + (I p1 x3.toNat)).toNat) (-1)) p6 x3.toNat) + 1 ∧ ((up2 I p3 ((18 + (I p1 x3.toNat)).toNat) (-1)) p6 x3.toNat) + 1 ≤ 2147483647) (hi9 : 0 ≤ x3 ∧ x3 < (q6 : Nat)) (hi10 : 0 ≤ x3 ∧ x3 < (q6 : Nat)) (kt : (up2 (up2 I p3 ((18 + (I p1 x3.toNat)).toNat) (-1)) p6 (x3.toNat) (((up2 I p3 ((18 + (I p1 x3.toNat)).toNat) (-1)) p6 x3.toNat) + 1)) p6 x3.toNat ≤ 3 → Ev d mX12_solves (73, [some (vR (some (22, 0, a0))), some (vI x1), some (vI x2), some (vI x3), some (vI (I p1 x3.toNat))], [], ((up2 (up2 I p3 ((18 + (I p1 x3.toNat)).toNat) (-1)) p6 (x3.toNat) (((up2 I p3 ((18 + (I p1 x3.toNat)).toNat) (-1)) p6 x3.toNat) + 1)), S)) r) (kf : 3 < (up2 (up2 I p3 ((18 + (I p1 x3.toNat)).toNat) (-1)) p6 (x3.toNat) (((up2 I p3 ((18 + (I p1 x3.toNat)).toNat) (-1)) p6 x3.toNat) + 1)) p6 x3.toNat → Ev d mX12_solves (67, [some (vR (some (22, 0, a0))), some (vI x1), some (vI x2), some (vI x3), some (vI (I p1 x3.toNat))], [], ((up2 (up2 I p3 ((18 + (I p1 x3.toNat)).toNat) (-1)) p6 (x3.toNat) (((up2 I p3 ((18 + (I p1 x3.toNat)).toNat) (-1)) p6 x3.toNat) + 1)), S)) r) : Ev d mX12_solves (28, [some (vR (some (22, 0, a0))), some (vI x1), some (vI x2), some (vI x3), none], [], (I, S)) r :=
  s_aload_n rfl rfl rfl <|
  s_getR rfl rfl rfl hr1 <|
  s_iload_n rfl rfl rfl <|
  s_iald rfl rfl hi2 <|
  s_istore [some (vR (some (22, 0, a0))), some (vI x1), some (vI x2), some (vI x3), some (vI (I p1 x3.toNat))] rfl rfl <|
  s_aload_n rfl rfl rfl <|
  s_getR rfl rfl rfl hr3 <|
  s_bipush rfl rfl <|
  s_iload rfl rfl rfl <|
  s_iaddp rfl ho4 <|
  s_iconst rfl rfl <|
  s_iast rfl hi5 <|
  s_aload_n rfl rfl rfl <|
  s_getR rfl rfl rfl hr6 <|
  s_iload_n rfl rfl rfl <|
  s_dup2 rfl rfl <|
  s_iald rfl rfl hi7 <|
  s_iconst rfl rfl <|
  s_iaddp rfl ho8 <|
  s_iast rfl hi9 <|
  s_aload_n rfl rfl rfl <|
  s_getR rfl rfl rfl hr6 <|
  s_iload_n rfl rfl rfl <|
  s_iald rfl rfl hi10 <|
  s_iconst rfl rfl <|
  s_icmp_le 73 rfl rfl kt kf
theorem b_X12_solves_67 {d : Nat} {r : PO × PM} {I : Nat → Nat → Int} {S : PS} {a0 : Nat} {x1 x2 x3 x4 : Int} (ho1 : -2147483648 ≤ x3 - 1 ∧ x3 - 1 ≤ 2147483647) (k : Ev d mX12_solves (24, [some (vR (some (22, 0, a0))), some (vI x1), some (vI x2), some (vI (x3 - 1)), none], [], (I, S)) r) : Ev d mX12_solves (67, [some (vR (some (22, 0, a0))), some (vI x1), some (vI x2), some (vI x3), some (vI x4)], [], (I, S)) r :=
  s_iincpn [some (vR (some (22, 0, a0))), some (vI x1), some (vI x2), some (vI (x3 - 1)), some (vI x4)] rfl rfl ho1 rfl <|
  s_goto 24 rfl rfl (ev_forget [false, false, false, false, true] rfl k)
theorem b_X12_solves_73 {d : Nat} {r : PO × PM} {I : Nat → Nat → Int} {S : PS} {a0 p1 q1 : Nat} {x1 x2 x3 x4 z : Int} {I1 : Nat → Nat → Int} {S1 : PS} (hr1 : S.1 a0 43 = some (0, q1, p1)) (hi2 : 0 ≤ x3 ∧ x3 < (q1 : Nat)) (c : Ca d mX12_isFree [vR (some (22, 0, a0)), vI 18, vI x4, vI (I p1 x3.toNat)] (I, S) (.inl (some (vI z))) (I1, S1)) (k : Ev (d + 1) mX12_solves (87, [some (vR (some (22, 0, a0))), some (vI x1), some (vI x2), some (vI x3), some (vI x4)], [vI z], (I1, S1)) r) : Ev (d + 1) mX12_solves (73, [some (vR (some (22, 0, a0))), some (vI x1), some (vI x2), some (vI x3), some (vI x4)], [], (I, S)) r :=
  s_aload_n rfl rfl rfl <|
  s_bipush rfl rfl <|
  s_iload rfl rfl rfl <|
  s_aload_n rfl rfl rfl <|
  s_getR rfl rfl rfl hr1 <|
  s_iload_n rfl rfl rfl <|
  s_iald rfl rfl hi2 <|
  s_cvI rfl rfl rfl rfl rfl c k
theorem b_X12_solves_87 {d : Nat} {r : PO × PM} {I : Nat → Nat → Int} {S : PS} {a0 : Nat} {x1 x2 x3 x4 xs0 : Int} (kt : xs0 ≠ 0 → Ev d mX12_solves (93, [some (vR (some (22, 0, a0))), some (vI x1), some (vI x2), some (vI x3), some (vI x4)], [], (I, S)) r) (kf : xs0 = 0 → Ev d mX12_solves (90, [some (vR (some (22, 0, a0))), some (vI x1), some (vI x2), some (vI x3), some (vI x4)], [], (I, S)) r) : Ev d mX12_solves (87, [some (vR (some (22, 0, a0))), some (vI x1), some (vI x2), some (vI x3), some (vI x4)], [vI xs0], (I, S)) r :=
  s_if_ne 93 rfl rfl kt kf
theorem b_X12_solves_90 {d : Nat} {r : PO × PM} {I : Nat → Nat → Int} {S : PS} {a0 : Nat} {x1 x2 x3 x4 : Int} (k : Ev d mX12_solves (24, [some (vR (some (22, 0, a0))), some (vI x1), some (vI x2), some (vI x3), none], [], (I, S)) r) : Ev d mX12_solves (90, [some (vR (some (22, 0, a0))), some (vI x1), some (vI x2), some (vI x3), some (vI x4)], [], (I, S)) r :=
  s_goto 24 rfl rfl (ev_forget [false, false, false, false, true] rfl k)
theorem b_X12_solves_93 {d : Nat} {r : PO × PM} {I : Nat → Nat → Int} {S : PS} {a0 p1 q1 p3 q3 : Nat} {x1 x2 x3 x4 : Int} (hr1 : S.1 a0 39 = some (0, q1, p1)) (ho2 : -2147483648 ≤ 18 + x4 ∧ 18 + x4 ≤ 2147483647) (hr3 : S.1 a0 43 = some (0, q3, p3)) (hi4 : 0 ≤ x3 ∧ x3 < (q3 : Nat)) (hi5 : 0 ≤ 18 + x4 ∧ 18 + x4 < (q1 : Nat)) (ho6 : -2147483648 ≤ x3 + 1 ∧ x3 + 1 ≤ 2147483647) (kt : x3 + 1 ≠ (up2 I p1 ((18 + x4).toNat) (I p3 x3.toNat)) a0 44 → Ev d mX12_solves (128, [some (vR (some (22, 0, a0))), some (vI x1), some (vI x2), some (vI x3), some (vI x4)], [], ((up2 I p1 ((18 + x4).toNat) (I p3 x3.toNat)), S)) r) (kf : x3 + 1 = (up2 I p1 ((18 + x4).toNat) (I p3 x3.toNat)) a0 44 → Ev d mX12_solves (119, [some (vR (some (22, 0, a0))), some (vI x1), some (vI x2), some (vI x3), some (vI x4)], [], ((up2 I p1 ((18 + x4).toNat) (I p3 x3.toNat)), S)) r) : Ev d mX12_solves (93, [some (vR (some (22, 0, a0))), some (vI x1), some (vI x2), some (vI x3), some (vI x4)], [], (I, S)) r :=
  s_aload_n rfl rfl rfl <|
  s_getR rfl rfl rfl hr1 <|
  s_bipush rfl rfl <|
  s_iload rfl rfl rfl <|
  s_iaddp rfl ho2 <|
  s_aload_n rfl rfl rfl <|
  s_getR rfl rfl rfl hr3 <|
  s_iload_n rfl rfl rfl <|
  s_iald rfl rfl hi4 <|
  s_iast rfl hi5 <|
  s_iload_n rfl rfl rfl <|
  s_iconst rfl rfl <|
  s_iaddp rfl ho6 <|
  s_aload_n rfl rfl rfl <|
  s_getI rfl rfl rfl <|
  s_icmp_ne 128 rfl rfl kt kf
theorem b_X12_solves_119 {d : Nat} {r : PO × PM} {I : Nat → Nat → Int} {S : PS} {a0 : Nat} {x1 x2 x3 x4 : Int} (ho1 : -2147483648 ≤ x2 + 1 ∧ x2 + 1 ≤ 2147483647) (kt : x1 = 0 → Ev d mX12_solves (24, [some (vR (some (22, 0, a0))), some (vI x1), some (vI (x2 + 1)), some (vI x3), none], [], (I, S)) r) (kf : x1 ≠ 0 → Ev d mX12_solves (126, [some (vR (some (22, 0, a0))), some (vI x1), some (vI (x2 + 1)), some (vI x3), some (vI x4)], [], (I, S)) r) : Ev d mX12_solves (119, [some (vR (some (22, 0, a0))), some (vI x1), some (vI x2), some (vI x3), some (vI x4)], [], (I, S)) r :=
  s_iincp [some (vR (some (22, 0, a0))), some (vI x1), some (vI (x2 + 1)), some (vI x3), some (vI x4)] rfl rfl ho1 rfl <|
  s_iload_n rfl rfl rfl <|
  s_if_eq 24 rfl rfl (fun c => ev_forget [false, false, false, false, true] rfl <| kt c) kf
theorem b_X12_solves_126 {d : Nat} {I : Nat → Nat → Int} {S : PS} {a0 : Nat} {x1 x2 x3 x4 : Int} : Ev d mX12_solves (126, [some (vR (some (22, 0, a0))), some (vI x1), some (vI x2), some (vI x3), some (vI x4)], [], (I, S)) (.inl (some (vI x2)), (I, S)) :=
  s_iload_n rfl rfl rfl <|
  s_ret rfl rfl
theorem b_X12_solves_128 {d : Nat} {r : PO × PM} {I : Nat → Nat → Int} {S : PS} {a0 p2 q2 : Nat} {x1 x2 x3 x4 : Int} (ho1 : -2147483648 ≤ x3 + 1 ∧ x3 + 1 ≤ 2147483647) (hr2 : S.1 a0 43 = some (0, q2, p2)) (hi3 : 0 ≤ x3 + 1 ∧ x3 + 1 < (q2 : Nat)) (k : Ev d mX12_solves (24, [some (vR (some (22, 0, a0))), some (vI x1), some (vI x2), some (vI (x3 + 1)), none], [], ((up2 I p2 ((x3 + 1).toNat) (-1)), S)) r) : Ev d mX12_solves (128, [some (vR (some (22, 0, a0))), some (vI x1), some (vI x2), some (vI x3), some (vI x4)], [], (I, S)) r :=
  s_iincp [some (vR (some (22, 0, a0))), some (vI x1), some (vI x2), some (vI (x3 + 1)), some (vI x4)] rfl rfl ho1 rfl <|
  s_aload_n rfl rfl rfl <|
  s_getR rfl rfl rfl hr2 <|
  s_iload_n rfl rfl rfl <|
  s_iconst rfl rfl <|
  s_iast rfl hi3 <|
  s_goto 24 rfl rfl (ev_forget [false, false, false, false, true] rfl k)
theorem b_X12_solves_141 {d : Nat} {I : Nat → Nat → Int} {S : PS} {a0 : Nat} {x1 x2 x3 : Int} : Ev d mX12_solves (141, [some (vR (some (22, 0, a0))), some (vI x1), some (vI x2), some (vI x3), none], [], (I, S)) (.inl (some (vI x2)), (I, S)) :=
  s_iload_n rfl rfl rfl <|
  s_ret rfl rfl
theorem b_X12_solve_0 {d : Nat} {r : PO × PM} {I : Nat → Nat → Int} {S : PS} {a0 : Nat} {x1 z : Int} {I1 : Nat → Nat → Int} {S1 : PS} (c : Ca d mX12_isSpot [vR (some (22, 0, a0)), vI x1] ((up2 I a0 0 0), S) (.inl (some (vI z))) (I1, S1)) (k : Ev (d + 1) mX12_solve (10, [some (vR (some (22, 0, a0))), some (vI x1)], [vI z], (I1, S1)) r) : Ev (d + 1) mX12_solve (0, [some (vR (some (22, 0, a0))), some (vI x1)], [], (I, S)) r :=
  s_aload_n rfl rfl rfl <|
  s_iconst rfl rfl <|
  s_putI rfl rfl rfl <|
  s_aload_n rfl rfl rfl <|
  s_iload_n rfl rfl rfl <|
  s_cvI rfl rfl rfl rfl rfl c k
theorem b_X12_solve_10 {d : Nat} {r : PO × PM} {I : Nat → Nat → Int} {S : PS} {a0 : Nat} {x1 xs0 : Int} (kt : xs0 ≠ 0 → Ev d mX12_solve (15, [some (vR (some (22, 0, a0))), some (vI x1)], [], (I, S)) r) (kf : xs0 = 0 → Ev d mX12_solve (13, [some (vR (some (22, 0, a0))), some (vI x1)], [], (I, S)) r) : Ev d mX12_solve (10, [some (vR (some (22, 0, a0))), some (vI x1)], [vI xs0], (I, S)) r :=
  s_if_ne 15 rfl rfl kt kf
theorem b_X12_solve_13 {d : Nat} {I : Nat → Nat → Int} {S : PS} {a0 : Nat} {x1 : Int} : Ev d mX12_solve (13, [some (vR (some (22, 0, a0))), some (vI x1)], [], (I, S)) (.inl (some (vI 0)), (I, S)) :=
  s_iconst rfl rfl <|
  s_ret rfl rfl
theorem b_X12_solve_15 {d : Nat} {r : PO × PM} {I : Nat → Nat → Int} {S : PS} {a0 : Nat} {x1 z : Int} {I1 : Nat → Nat → Int} {S1 : PS} (c : Ca d mX12_solves [vR (some (22, 0, a0)), vI 1] (I, S) (.inl (some (vI z))) (I1, S1)) (k : Ev (d + 1) mX12_solve (20, [some (vR (some (22, 0, a0))), some (vI x1)], [vI z], (I1, S1)) r) : Ev (d + 1) mX12_solve (15, [some (vR (some (22, 0, a0))), some (vI x1)], [], (I, S)) r :=
  s_aload_n rfl rfl rfl <|
  s_iconst rfl rfl <|
  s_cvI rfl rfl rfl rfl rfl c k
theorem b_X12_solve_20 {d : Nat} {r : PO × PM} {I : Nat → Nat → Int} {S : PS} {a0 : Nat} {x1 xs0 : Int} (kt : xs0 ≠ 0 → Ev d mX12_solve (27, [some (vR (some (22, 0, a0))), some (vI x1)], [], (I, S)) r) (kf : xs0 = 0 → Ev d mX12_solve (23, [some (vR (some (22, 0, a0))), some (vI x1)], [], (I, S)) r) : Ev d mX12_solve (20, [some (vR (some (22, 0, a0))), some (vI x1)], [vI xs0], (I, S)) r :=
  s_if_ne 27 rfl rfl kt kf
theorem b_X12_solve_23 {d : Nat} {r : PO × PM} {I : Nat → Nat → Int} {S : PS} {a0 : Nat} {x1 : Int} (k : Ev d mX12_solve (36, [some (vR (some (22, 0, a0))), some (vI x1)], [vI (-1)], (I, S)) r) : Ev d mX12_solve (23, [some (vR (some (22, 0, a0))), some (vI x1)], [], (I, S)) r :=
  s_iconst rfl rfl <|
  s_goto 36 rfl rfl k
theorem b_X12_solve_27 {d : Nat} {r : PO × PM} {I : Nat → Nat → Int} {S : PS} {a0 p1 q1 : Nat} {x1 : Int} (hr1 : S.1 a0 39 = some (0, q1, p1)) (ho2 : -2147483648 ≤ 18 + x1 ∧ 18 + x1 ≤ 2147483647) (hi3 : 0 ≤ 18 + x1 ∧ 18 + x1 < (q1 : Nat)) (k : Ev d mX12_solve (36, [some (vR (some (22, 0, a0))), some (vI x1)], [vI (I p1 (18 + x1).toNat)], (I, S)) r) : Ev d mX12_solve (27, [some (vR (some (22, 0, a0))), some (vI x1)], [], (I, S)) r :=
  s_aload_n rfl rfl rfl <|
  s_getR rfl rfl rfl hr1 <|
  s_bipush rfl rfl <|
  s_iload_n rfl rfl rfl <|
  s_iaddp rfl ho2 <|
  s_iald rfl rfl hi3 <|
  k
theorem b_X12_solve_36 {d : Nat} {I : Nat → Nat → Int} {S : PS} {a0 : Nat} {x1 xs0 : Int} : Ev d mX12_solve (36, [some (vR (some (22, 0, a0))), some (vI x1)], [vI xs0], (I, S)) (.inl (some (vI xs0)), (I, S)) :=
  s_ret rfl rfl
theorem b_X12_ways_0 {d : Nat} {r : PO × PM} {I : Nat → Nat → Int} {S : PS} {a0 : Nat} {I1 : Nat → Nat → Int} {S1 : PS} {z : Int} (c : Ca d mX12_solves [vR (some (22, 0, a0)), vI 0] ((up2 I a0 0 0), S) (.inl (some (vI z))) (I1, S1)) (k : Ev (d + 1) mX12_ways (10, [some (vR (some (22, 0, a0)))], [vI z], (I1, S1)) r) : Ev (d + 1) mX12_ways (0, [some (vR (some (22, 0, a0)))], [], (I, S)) r :=
  s_aload_n rfl rfl rfl <|
  s_iconst rfl rfl <|
  s_putI rfl rfl rfl <|
  s_aload_n rfl rfl rfl <|
  s_iconst rfl rfl <|
  s_cvI rfl rfl rfl rfl rfl c k
theorem b_X12_ways_10 {d : Nat} {I : Nat → Nat → Int} {S : PS} {a0 : Nat} {xs0 : Int} : Ev d mX12_ways (10, [some (vR (some (22, 0, a0)))], [vI xs0], (I, S)) (.inl (some (vI xs0)), (I, S)) :=
  s_ret rfl rfl
theorem b_X12_isFreed_0 {d : Nat} {r : PO × PM} {I : Nat → Nat → Int} {S : PS} {a0 : Nat} {x1 : Int} (k : Ev d mX12_isFreed (2, [some (vR (some (22, 0, a0))), some (vI x1), some (vI 0), none, none], [], (I, S)) r) : Ev d mX12_isFreed (0, [some (vR (some (22, 0, a0))), some (vI x1), none, none, none], [], (I, S)) r :=
  s_iconst rfl rfl <|
  s_istore_n [some (vR (some (22, 0, a0))), some (vI x1), some (vI 0), none, none] rfl rfl <|
  k
theorem b_X12_isFreed_2 {d : Nat} {r : PO × PM} {I : Nat → Nat → Int} {S : PS} {a0 : Nat} {x1 x2 : Int} (kt : I a0 15 ≤ x2 → Ev d mX12_isFreed (31, [some (vR (some (22, 0, a0))), some (vI x1), some (vI x2), none, none], [], (I, S)) r) (kf : x2 < I a0 15 → Ev d mX12_isFreed (10, [some (vR (some (22, 0, a0))), some (vI x1), some (vI x2), none, none], [], (I, S)) r) : Ev d mX12_isFreed (2, [some (vR (some (22, 0, a0))), some (vI x1), some (vI x2), none, none], [], (I, S)) r :=
  s_iload_n rfl rfl rfl <|
  s_aload_n rfl rfl rfl <|
  s_getI rfl rfl rfl <|
  s_icmp_ge 31 rfl rfl kt kf
theorem b_X12_isFreed_10 {d : Nat} {r : PO × PM} {I : Nat → Nat → Int} {S : PS} {a0 p1 q1 p2 q2 : Nat} {x1 x2 : Int} (hr1 : S.1 a0 45 = some (0, q1, p1)) (hr2 : S.1 a0 39 = some (0, q2, p2)) (ho3 : -2147483648 ≤ 18 + x2 ∧ 18 + x2 ≤ 2147483647) (hi4 : 0 ≤ 18 + x2 ∧ 18 + x2 < (q2 : Nat)) (hi5 : 0 ≤ x2 ∧ x2 < (q1 : Nat)) (ho6 : -2147483648 ≤ x2 + 1 ∧ x2 + 1 ≤ 2147483647) (k : Ev d mX12_isFreed (2, [some (vR (some (22, 0, a0))), some (vI x1), some (vI (x2 + 1)), none, none], [], ((up2 I p1 (x2.toNat) (I p2 (18 + x2).toNat)), S)) r) : Ev d mX12_isFreed (10, [some (vR (some (22, 0, a0))), some (vI x1), some (vI x2), none, none], [], (I, S)) r :=
  s_aload_n rfl rfl rfl <|
  s_getR rfl rfl rfl hr1 <|
  s_iload_n rfl rfl rfl <|
  s_aload_n rfl rfl rfl <|
  s_getR rfl rfl rfl hr2 <|
  s_bipush rfl rfl <|
  s_iload_n rfl rfl rfl <|
  s_iaddp rfl ho3 <|
  s_iald rfl rfl hi4 <|
  s_iast rfl hi5 <|
  s_iincp [some (vR (some (22, 0, a0))), some (vI x1), some (vI (x2 + 1)), none, none] rfl rfl ho6 rfl <|
  s_goto 2 rfl rfl k
theorem b_X12_isFreed_31 {d : Nat} {r : PO × PM} {I : Nat → Nat → Int} {S : PS} {a0 : Nat} {x1 x2 : Int} (k : Ev d mX12_isFreed (33, [some (vR (some (22, 0, a0))), some (vI x1), some (vI 0), none, none], [], (I, S)) r) : Ev d mX12_isFreed (31, [some (vR (some (22, 0, a0))), some (vI x1), some (vI x2), none, none], [], (I, S)) r :=
  s_iconst rfl rfl <|
  s_istore_n [some (vR (some (22, 0, a0))), some (vI x1), some (vI 0), none, none] rfl rfl <|
  k
theorem b_X12_isFreed_33 {d : Nat} {r : PO × PM} {I : Nat → Nat → Int} {S : PS} {a0 : Nat} {x1 x2 : Int} (kt : I a0 15 ≤ x2 → Ev d mX12_isFreed (130, [some (vR (some (22, 0, a0))), some (vI x1), some (vI x2), none, none], [], (I, S)) r) (kf : x2 < I a0 15 → Ev d mX12_isFreed (41, [some (vR (some (22, 0, a0))), some (vI x1), some (vI x2), none, none], [], (I, S)) r) : Ev d mX12_isFreed (33, [some (vR (some (22, 0, a0))), some (vI x1), some (vI x2), none, none], [], (I, S)) r :=
  s_iload_n rfl rfl rfl <|
  s_aload_n rfl rfl rfl <|
  s_getI rfl rfl rfl <|
  s_icmp_ge 130 rfl rfl kt kf
theorem b_X12_isFreed_41 {d : Nat} {r : PO × PM} {I : Nat → Nat → Int} {S : PS} {a0 : Nat} {x1 x2 : Int} (k : Ev d mX12_isFreed (43, [some (vR (some (22, 0, a0))), some (vI x1), some (vI x2), some (vI 0), none], [], (I, S)) r) : Ev d mX12_isFreed (41, [some (vR (some (22, 0, a0))), some (vI x1), some (vI x2), none, none], [], (I, S)) r :=
  s_iconst rfl rfl <|
  s_istore_n [some (vR (some (22, 0, a0))), some (vI x1), some (vI x2), some (vI 0), none] rfl rfl <|
  k
theorem b_X12_isFreed_43 {d : Nat} {r : PO × PM} {I : Nat → Nat → Int} {S : PS} {a0 : Nat} {x1 x2 x3 : Int} (kt : 4 ≤ x3 → Ev d mX12_isFreed (124, [some (vR (some (22, 0, a0))), some (vI x1), some (vI x2), some (vI x3), none], [], (I, S)) r) (kf : x3 < 4 → Ev d mX12_isFreed (48, [some (vR (some (22, 0, a0))), some (vI x1), some (vI x2), some (vI x3), none], [], (I, S)) r) : Ev d mX12_isFreed (43, [some (vR (some (22, 0, a0))), some (vI x1), some (vI x2), some (vI x3), none], [], (I, S)) r :=
  s_iload_n rfl rfl rfl <|
  s_iconst rfl rfl <|
  s_icmp_ge 124 rfl rfl kt kf
theorem b_X12_isFreed_48 {d : Nat} {r : PO × PM} {I : Nat → Nat → Int} {S : PS} {a0 : Nat} {x1 x2 x3 : Int} (k : Ev d mX12_isFreed (51, [some (vR (some (22, 0, a0))), some (vI x1), some (vI x2), some (vI x3), some (vI 0)], [], (I, S)) r) : Ev d mX12_isFreed (48, [some (vR (some (22, 0, a0))), some (vI x1), some (vI x2), some (vI x3), none], [], (I, S)) r :=
  s_iconst rfl rfl <|
  s_istore [some (vR (some (22, 0, a0))), some (vI x1), some (vI x2), some (vI x3), some (vI 0)] rfl rfl <|
  k
theorem b_X12_isFreed_51 {d : Nat} {r : PO × PM} {I : Nat → Nat → Int} {S : PS} {a0 : Nat} {x1 x2 x3 x4 : Int} (kt : I a0 15 ≤ x4 → Ev d mX12_isFreed (83, [some (vR (some (22, 0, a0))), some (vI x1), some (vI x2), some (vI x3), some (vI x4)], [], (I, S)) r) (kf : x4 < I a0 15 → Ev d mX12_isFreed (60, [some (vR (some (22, 0, a0))), some (vI x1), some (vI x2), some (vI x3), some (vI x4)], [], (I, S)) r) : Ev d mX12_isFreed (51, [some (vR (some (22, 0, a0))), some (vI x1), some (vI x2), some (vI x3), some (vI x4)], [], (I, S)) r :=
  s_iload rfl rfl rfl <|
  s_aload_n rfl rfl rfl <|
  s_getI rfl rfl rfl <|
  s_icmp_ge 83 rfl rfl kt kf
theorem b_X12_isFreed_60 {d : Nat} {r : PO × PM} {I : Nat → Nat → Int} {S : PS} {a0 p1 q1 p3 q3 : Nat} {x1 x2 x3 x4 : Int} (hr1 : S.1 a0 39 = some (0, q1, p1)) (ho2 : -2147483648 ≤ 18 + x4 ∧ 18 + x4 ≤ 2147483647) (hr3 : S.1 a0 45 = some (0, q3, p3)) (hi4 : 0 ≤ x4 ∧ x4 < (q3 : Nat)) (hi5 : 0 ≤ 18 + x4 ∧ 18 + x4 < (q1 : Nat)) (ho6 : -2147483648 ≤ x4 + 1 ∧ x4 + 1 ≤ 2147483647) (k : Ev d mX12_isFreed (51, [some (vR (some (22, 0, a0))), some (vI x1), some (vI x2), some (vI x3), some (vI (x4 + 1))], [], ((up2 I p1 ((18 + x4).toNat) (I p3 x4.toNat)), S)) r) : Ev d mX12_isFreed (60, [some (vR (some (22, 0, a0))), some (vI x1), some (vI x2), some (vI x3), some (vI x4)], [], (I, S)) r :=
  s_aload_n rfl rfl rfl <|
  s_getR rfl rfl rfl hr1 <|
  s_bipush rfl rfl <|
  s_iload rfl rfl rfl <|
  s_iaddp rfl ho2 <|
  s_aload_n rfl rfl rfl <|
  s_getR rfl rfl rfl hr3 <|
  s_iload rfl rfl rfl <|
  s_iald rfl rfl hi4 <|
  s_iast rfl hi5 <|
  s_iincp [some (vR (some (22, 0, a0))), some (vI x1), some (vI x2), some (vI x3), some (vI (x4 + 1))] rfl rfl ho6 rfl <|
  s_goto 51 rfl rfl k
theorem b_X12_isFreed_83 {d : Nat} {r : PO × PM} {I : Nat → Nat → Int} {S : PS} {a0 : Nat} {x1 x2 x3 x4 z : Int} {I1 : Nat → Nat → Int} {S1 : PS} (c : Ca d mX12_canSwap [vR (some (22, 0, a0)), vI 18, vI x2, vI x3] (I, S) (.inl (some (vI z))) (I1, S1)) (k : Ev (d + 1) mX12_isFreed (91, [some (vR (some (22, 0, a0))), some (vI x1), some (vI x2), some (vI x3), some (vI x4)], [vI z], (I1, S1)) r) : Ev (d + 1) mX12_isFreed (83, [some (vR (some (22, 0, a0))), some (vI x1), some (vI x2), some (vI x3), some (vI x4)], [], (I, S)) r :=
  s_aload_n rfl rfl rfl <|
  s_bipush rfl rfl <|
  s_iload_n rfl rfl rfl <|
  s_iload_n rfl rfl rfl <|
  s_cvI rfl rfl rfl rfl rfl c k
theorem b_X12_isFreed_91 {d : Nat} {r : PO × PM} {I : Nat → Nat → Int} {S : PS} {a0 : Nat} {x1 x2 x3 x4 xs0 : Int} (kt : xs0 ≠ 0 → Ev d mX12_isFreed (97, [some (vR (some (22, 0, a0))), some (vI x1), some (vI x2), some (vI x3), some (vI x4)], [], (I, S)) r) (kf : xs0 = 0 → Ev d mX12_isFreed (94, [some (vR (some (22, 0, a0))), some (vI x1), some (vI x2), some (vI x3), some (vI x4)], [], (I, S)) r) : Ev d mX12_isFreed (91, [some (vR (some (22, 0, a0))), some (vI x1), some (vI x2), some (vI x3), some (vI x4)], [vI xs0], (I, S)) r :=
  s_if_ne 97 rfl rfl kt kf
theorem b_X12_isFreed_94 {d : Nat} {r : PO × PM} {I : Nat → Nat → Int} {S : PS} {a0 : Nat} {x1 x2 x3 x4 : Int} (k : Ev d mX12_isFreed (118, [some (vR (some (22, 0, a0))), some (vI x1), some (vI x2), some (vI x3), some (vI x4)], [], (I, S)) r) : Ev d mX12_isFreed (94, [some (vR (some (22, 0, a0))), some (vI x1), some (vI x2), some (vI x3), some (vI x4)], [], (I, S)) r :=
  s_goto 118 rfl rfl k
theorem b_X12_isFreed_97 {d : Nat} {r : PO × PM} {I : Nat → Nat → Int} {S : PS} {a0 : Nat} {x1 x2 x3 x4 z : Int} {I1 : Nat → Nat → Int} {S1 : PS} (c : Ca d mX12_swaps [vR (some (22, 0, a0)), vI 18, vI x2, vI x3] (I, S) (.inl (some (vI z))) (I1, S1)) (k : Ev (d + 1) mX12_isFreed (105, [some (vR (some (22, 0, a0))), some (vI x1), some (vI x2), some (vI x3), some (vI x4)], [vI z], (I1, S1)) r) : Ev (d + 1) mX12_isFreed (97, [some (vR (some (22, 0, a0))), some (vI x1), some (vI x2), some (vI x3), some (vI x4)], [], (I, S)) r :=
  s_aload_n rfl rfl rfl <|
  s_bipush rfl rfl <|
  s_iload_n rfl rfl rfl <|
  s_iload_n rfl rfl rfl <|
  s_cvI rfl rfl rfl rfl rfl c k
theorem b_X12_isFreed_105 {d : Nat} {r : PO × PM} {I : Nat → Nat → Int} {S : PS} {a0 : Nat} {x1 x2 x3 x4 xs0 z : Int} {I1 : Nat → Nat → Int} {S1 : PS} (c : Ca d mX12_freeFor [vR (some (22, 0, a0)), vI 18, vI x1] (I, S) (.inl (some (vI z))) (I1, S1)) (k : Ev (d + 1) mX12_isFreed (113, [some (vR (some (22, 0, a0))), some (vI x1), some (vI x2), some (vI x3), some (vI x4)], [vI z], (I1, S1)) r) : Ev (d + 1) mX12_isFreed (105, [some (vR (some (22, 0, a0))), some (vI x1), some (vI x2), some (vI x3), some (vI x4)], [vI xs0], (I, S)) r :=
  s_pop rfl rfl <|
  s_aload_n rfl rfl rfl <|
  s_bipush rfl rfl <|
  s_iload_n rfl rfl rfl <|
  s_cvI rfl rfl rfl rfl rfl c k
theorem b_X12_isFreed_113 {d : Nat} {r : PO × PM} {I : Nat → Nat → Int} {S : PS} {a0 : Nat} {x1 x2 x3 x4 xs0 : Int} (kt : xs0 = 0 → Ev d mX12_isFreed (118, [some (vR (some (22, 0, a0))), some (vI x1), some (vI x2), some (vI x3), some (vI x4)], [], (I, S)) r) (kf : xs0 ≠ 0 → Ev d mX12_isFreed (116, [some (vR (some (22, 0, a0))), some (vI x1), some (vI x2), some (vI x3), some (vI x4)], [], (I, S)) r) : Ev d mX12_isFreed (113, [some (vR (some (22, 0, a0))), some (vI x1), some (vI x2), some (vI x3), some (vI x4)], [vI xs0], (I, S)) r :=
  s_if_eq 118 rfl rfl kt kf
theorem b_X12_isFreed_116 {d : Nat} {I : Nat → Nat → Int} {S : PS} {a0 : Nat} {x1 x2 x3 x4 : Int} : Ev d mX12_isFreed (116, [some (vR (some (22, 0, a0))), some (vI x1), some (vI x2), some (vI x3), some (vI x4)], [], (I, S)) (.inl (some (vI 1)), (I, S)) :=
  s_iconst rfl rfl <|
  s_ret rfl rfl
theorem b_X12_isFreed_118 {d : Nat} {r : PO × PM} {I : Nat → Nat → Int} {S : PS} {a0 : Nat} {x1 x2 x3 x4 : Int} (ho1 : -2147483648 ≤ x3 + 1 ∧ x3 + 1 ≤ 2147483647) (k : Ev d mX12_isFreed (43, [some (vR (some (22, 0, a0))), some (vI x1), some (vI x2), some (vI (x3 + 1)), none], [], (I, S)) r) : Ev d mX12_isFreed (118, [some (vR (some (22, 0, a0))), some (vI x1), some (vI x2), some (vI x3), some (vI x4)], [], (I, S)) r :=
  s_iincp [some (vR (some (22, 0, a0))), some (vI x1), some (vI x2), some (vI (x3 + 1)), some (vI x4)] rfl rfl ho1 rfl <|
  s_goto 43 rfl rfl (ev_forget [false, false, false, false, true] rfl k)
theorem b_X12_isFreed_124 {d : Nat} {r : PO × PM} {I : Nat → Nat → Int} {S : PS} {a0 : Nat} {x1 x2 x3 : Int} (ho1 : -2147483648 ≤ x2 + 1 ∧ x2 + 1 ≤ 2147483647) (k : Ev d mX12_isFreed (33, [some (vR (some (22, 0, a0))), some (vI x1), some (vI (x2 + 1)), none, none], [], (I, S)) r) : Ev d mX12_isFreed (124, [some (vR (some (22, 0, a0))), some (vI x1), some (vI x2), some (vI x3), none], [], (I, S)) r :=
  s_iincp [some (vR (some (22, 0, a0))), some (vI x1), some (vI (x2 + 1)), some (vI x3), none] rfl rfl ho1 rfl <|
  s_goto 33 rfl rfl (ev_forget [false, false, false, true, false] rfl k)
theorem b_X12_isFreed_130 {d : Nat} {I : Nat → Nat → Int} {S : PS} {a0 : Nat} {x1 x2 : Int} : Ev d mX12_isFreed (130, [some (vR (some (22, 0, a0))), some (vI x1), some (vI x2), none, none], [], (I, S)) (.inl (some (vI 0)), (I, S)) :=
  s_iconst rfl rfl <|
  s_ret rfl rfl
theorem b_X12_free_0 {d : Nat} {r : PO × PM} {I : Nat → Nat → Int} {S : PS} {a0 : Nat} {x1 x2 z : Int} {I1 : Nat → Nat → Int} {S1 : PS} (c : Ca d mX12_isSpot [vR (some (22, 0, a0)), vI x1] ((up2 I a0 0 0), S) (.inl (some (vI z))) (I1, S1)) (k : Ev (d + 1) mX12_free (10, [some (vR (some (22, 0, a0))), some (vI x1), some (vI x2), none, none, none], [vI z], (I1, S1)) r) : Ev (d + 1) mX12_free (0, [some (vR (some (22, 0, a0))), some (vI x1), some (vI x2), none, none, none], [], (I, S)) r :=
  s_aload_n rfl rfl rfl <|
  s_iconst rfl rfl <|
  s_putI rfl rfl rfl <|
  s_aload_n rfl rfl rfl <|
  s_iload_n rfl rfl rfl <|
  s_cvI rfl rfl rfl rfl rfl c k
theorem b_X12_free_10 {d : Nat} {r : PO × PM} {I : Nat → Nat → Int} {S : PS} {a0 : Nat} {x1 x2 xs0 : Int} (kt : xs0 = 0 → Ev d mX12_free (22, [some (vR (some (22, 0, a0))), some (vI x1), some (vI x2), none, none, none], [], (I, S)) r) (kf : xs0 ≠ 0 → Ev d mX12_free (13, [some (vR (some (22, 0, a0))), some (vI x1), some (vI x2), none, none, none], [], (I, S)) r) : Ev d mX12_free (10, [some (vR (some (22, 0, a0))), some (vI x1), some (vI x2), none, none, none], [vI xs0], (I, S)) r :=
  s_if_eq 22 rfl rfl kt kf
theorem b_X12_free_13 {d : Nat} {r : PO × PM} {I : Nat → Nat → Int} {S : PS} {a0 : Nat} {x1 x2 z : Int} {I1 : Nat → Nat → Int} {S1 : PS} (c : Ca d mX12_isWhat [vR (some (22, 0, a0)), vI x2, vI 1] (I, S) (.inl (some (vI z))) (I1, S1)) (k : Ev (d + 1) mX12_free (19, [some (vR (some (22, 0, a0))), some (vI x1), some (vI x2), none, none, none], [vI z], (I1, S1)) r) : Ev (d + 1) mX12_free (13, [some (vR (some (22, 0, a0))), some (vI x1), some (vI x2), none, none, none], [], (I, S)) r :=
  s_aload_n rfl rfl rfl <|
  s_iload_n rfl rfl rfl <|
  s_iconst rfl rfl <|
  s_cvI rfl rfl rfl rfl rfl c k
theorem b_X12_free_19 {d : Nat} {r : PO × PM} {I : Nat → Nat → Int} {S : PS} {a0 : Nat} {x1 x2 xs0 : Int} (kt : xs0 ≠ 0 → Ev d mX12_free (24, [some (vR (some (22, 0, a0))), some (vI x1), some (vI x2), none, none, none], [], (I, S)) r) (kf : xs0 = 0 → Ev d mX12_free (22, [some (vR (some (22, 0, a0))), some (vI x1), some (vI x2), none, none, none], [], (I, S)) r) : Ev d mX12_free (19, [some (vR (some (22, 0, a0))), some (vI x1), some (vI x2), none, none, none], [vI xs0], (I, S)) r :=
  s_if_ne 24 rfl rfl kt kf
theorem b_X12_free_22 {d : Nat} {I : Nat → Nat → Int} {S : PS} {a0 : Nat} {x1 x2 : Int} : Ev d mX12_free (22, [some (vR (some (22, 0, a0))), some (vI x1), some (vI x2), none, none, none], [], (I, S)) (.inl (some (vI 0)), (I, S)) :=
  s_iconst rfl rfl <|
  s_ret rfl rfl
theorem b_X12_free_24 {d : Nat} {r : PO × PM} {I : Nat → Nat → Int} {S : PS} {a0 p1 q1 : Nat} {x1 x2 : Int} (hr1 : S.1 a0 39 = some (0, q1, p1)) (hi2 : 0 ≤ x1 ∧ x1 < (q1 : Nat)) (kt : I p1 x1.toNat = (-1) → Ev d mX12_free (36, [some (vR (some (22, 0, a0))), some (vI x1), some (vI x2), none, none, none], [], (I, S)) r) (kf : I p1 x1.toNat ≠ (-1) → Ev d mX12_free (34, [some (vR (some (22, 0, a0))), some (vI x1), some (vI x2), none, none, none], [], (I, S)) r) : Ev d mX12_free (24, [some (vR (some (22, 0, a0))), some (vI x1), some (vI x2), none, none, none], [], (I, S)) r :=
  s_aload_n rfl rfl rfl <|
  s_getR rfl rfl rfl hr1 <|
  s_iload_n rfl rfl rfl <|
  s_iald rfl rfl hi2 <|
  s_iconst rfl rfl <|
  s_icmp_eq 36 rfl rfl kt kf
theorem b_X12_free_34 {d : Nat} {I : Nat → Nat → Int} {S : PS} {a0 : Nat} {x1 x2 : Int} : Ev d mX12_free (34, [some (vR (some (22, 0, a0))), some (vI x1), some (vI x2), none, none, none], [], (I, S)) (.inl (some (vI (-1))), (I, S)) :=
  s_iconst rfl rfl <|
  s_ret rfl rfl
theorem b_X12_free_36 {d : Nat} {r : PO × PM} {I : Nat → Nat → Int} {S : PS} {a0 : Nat} {x1 x2 z : Int} {I1 : Nat → Nat → Int} {S1 : PS} (c : Ca d mX12_freeFor [vR (some (22, 0, a0)), vI 0, vI x1] (I, S) (.inl (some (vI z))) (I1, S1)) (k : Ev (d + 1) mX12_free (42, [some (vR (some (22, 0, a0))), some (vI x1), some (vI x2), none, none, none], [vI z], (I1, S1)) r) : Ev (d + 1) mX12_free (36, [some (vR (some (22, 0, a0))), some (vI x1), some (vI x2), none, none, none], [], (I, S)) r :=
  s_aload_n rfl rfl rfl <|
  s_iconst rfl rfl <|
  s_iload_n rfl rfl rfl <|
  s_cvI rfl rfl rfl rfl rfl c k
theorem b_X12_free_42 {d : Nat} {r : PO × PM} {I : Nat → Nat → Int} {S : PS} {a0 : Nat} {x1 x2 xs0 : Int} (kt : xs0 = 0 → Ev d mX12_free (55, [some (vR (some (22, 0, a0))), some (vI x1), some (vI x2), none, none, none], [], (I, S)) r) (kf : xs0 ≠ 0 → Ev d mX12_free (45, [some (vR (some (22, 0, a0))), some (vI x1), some (vI x2), none, none, none], [], (I, S)) r) : Ev d mX12_free (42, [some (vR (some (22, 0, a0))), some (vI x1), some (vI x2), none, none, none], [vI xs0], (I, S)) r :=
  s_if_eq 55 rfl rfl kt kf
theorem b_X12_free_45 {d : Nat} {r : PO × PM} {I : Nat → Nat → Int} {S : PS} {a0 : Nat} {x1 x2 : Int} (kt : x2 ≠ 0 → Ev d mX12_free (53, [some (vR (some (22, 0, a0))), some (vI x1), some (vI x2), none, none, none], [], (I, S)) r) (kf : x2 = 0 → Ev d mX12_free (49, [some (vR (some (22, 0, a0))), some (vI x1), some (vI x2), none, none, none], [], (I, S)) r) : Ev d mX12_free (45, [some (vR (some (22, 0, a0))), some (vI x1), some (vI x2), none, none, none], [], (I, S)) r :=
  s_iload_n rfl rfl rfl <|
  s_if_ne 53 rfl rfl kt kf
theorem b_X12_free_49 {d : Nat} {r : PO × PM} {I : Nat → Nat → Int} {S : PS} {a0 : Nat} {x1 x2 : Int} (k : Ev d mX12_free (54, [some (vR (some (22, 0, a0))), some (vI x1), some (vI x2), none, none, none], [vI 0], (I, S)) r) : Ev d mX12_free (49, [some (vR (some (22, 0, a0))), some (vI x1), some (vI x2), none, none, none], [], (I, S)) r :=
  s_iconst rfl rfl <|
  s_goto 54 rfl rfl k
theorem b_X12_free_53 {d : Nat} {r : PO × PM} {I : Nat → Nat → Int} {S : PS} {a0 : Nat} {x1 x2 : Int} (k : Ev d mX12_free (54, [some (vR (some (22, 0, a0))), some (vI x1), some (vI x2), none, none, none], [vI (-1)], (I, S)) r) : Ev d mX12_free (53, [some (vR (some (22, 0, a0))), some (vI x1), some (vI x2), none, none, none], [], (I, S)) r :=
  s_iconst rfl rfl <|
  k
theorem b_X12_free_54 {d : Nat} {I : Nat → Nat → Int} {S : PS} {a0 : Nat} {x1 x2 xs0 : Int} : Ev d mX12_free (54, [some (vR (some (22, 0, a0))), some (vI x1), some (vI x2), none, none, none], [vI xs0], (I, S)) (.inl (some (vI xs0)), (I, S)) :=
  s_ret rfl rfl
theorem b_X12_free_55 {d : Nat} {r : PO × PM} {I : Nat → Nat → Int} {S : PS} {a0 : Nat} {x1 x2 : Int} (k : Ev d mX12_free (57, [some (vR (some (22, 0, a0))), some (vI x1), some (vI x2), some (vI 1), none, none], [], (I, S)) r) : Ev d mX12_free (55, [some (vR (some (22, 0, a0))), some (vI x1), some (vI x2), none, none, none], [], (I, S)) r :=
  s_iconst rfl rfl <|
  s_istore_n [some (vR (some (22, 0, a0))), some (vI x1), some (vI x2), some (vI 1), none, none] rfl rfl <|
  k
theorem b_X12_free_57 {d : Nat} {r : PO × PM} {I : Nat → Nat → Int} {S : PS} {a0 : Nat} {x1 x2 x3 : Int} (kt : 3 ≤ x3 → Ev d mX12_free (174, [some (vR (some (22, 0, a0))), some (vI x1), some (vI x2), some (vI x3), none, none], [], (I, S)) r) (kf : x3 < 3 → Ev d mX12_free (62, [some (vR (some (22, 0, a0))), some (vI x1), some (vI x2), some (vI x3), none, none], [], (I, S)) r) : Ev d mX12_free (57, [some (vR (some (22, 0, a0))), some (vI x1), some (vI x2), some (vI x3), none, none], [], (I, S)) r :=
  s_iload_n rfl rfl rfl <|
  s_iconst rfl rfl <|
  s_icmp_ge 174 rfl rfl kt kf
theorem b_X12_free_62 {d : Nat} {r : PO × PM} {I : Nat → Nat → Int} {S : PS} {a0 : Nat} {x1 x2 x3 : Int} (k : Ev d mX12_free (65, [some (vR (some (22, 0, a0))), some (vI x1), some (vI x2), some (vI x3), some (vI 0), none], [], (I, S)) r) : Ev d mX12_free (62, [some (vR (some (22, 0, a0))), some (vI x1), some (vI x2), some (vI x3), none, none], [], (I, S)) r :=
  s_iconst rfl rfl <|
  s_istore [some (vR (some (22, 0, a0))), some (vI x1), some (vI x2), some (vI x3), some (vI 0), none] rfl rfl <|
  k
theorem b_X12_free_65 {d : Nat} {r : PO × PM} {I : Nat → Nat → Int} {S : PS} {a0 : Nat} {x1 x2 x3 x4 : Int} (kt : I a0 15 ≤ x4 → Ev d mX12_free (168, [some (vR (some (22, 0, a0))), some (vI x1), some (vI x2), some (vI x3), some (vI x4), none], [], (I, S)) r) (kf : x4 < I a0 15 → Ev d mX12_free (74, [some (vR (some (22, 0, a0))), some (vI x1), some (vI x2), some (vI x3), some (vI x4), none], [], (I, S)) r) : Ev d mX12_free (65, [some (vR (some (22, 0, a0))), some (vI x1), some (vI x2), some (vI x3), some (vI x4), none], [], (I, S)) r :=
  s_iload rfl rfl rfl <|
  s_aload_n rfl rfl rfl <|
  s_getI rfl rfl rfl <|
  s_icmp_ge 168 rfl rfl kt kf
theorem b_X12_free_74 {d : Nat} {r : PO × PM} {I : Nat → Nat → Int} {S : PS} {a0 : Nat} {x1 x2 x3 x4 : Int} (k : Ev d mX12_free (77, [some (vR (some (22, 0, a0))), some (vI x1), some (vI x2), some (vI x3), some (vI x4), some (vI 0)], [], (I, S)) r) : Ev d mX12_free (74, [some (vR (some (22, 0, a0))), some (vI x1), some (vI x2), some (vI x3), some (vI x4), none], [], (I, S)) r :=
  s_iconst rfl rfl <|
  s_istore [some (vR (some (22, 0, a0))), some (vI x1), some (vI x2), some (vI x3), some (vI x4), some (vI 0)] rfl rfl <|
  k
theorem b_X12_free_77 {d : Nat} {r : PO × PM} {I : Nat → Nat → Int} {S : PS} {a0 : Nat} {x1 x2 x3 x4 x5 : Int} (kt : 4 ≤ x5 → Ev d mX12_free (162, [some (vR (some (22, 0, a0))), some (vI x1), some (vI x2), some (vI x3), some (vI x4), some (vI x5)], [], (I, S)) r) (kf : x5 < 4 → Ev d mX12_free (83, [some (vR (some (22, 0, a0))), some (vI x1), some (vI x2), some (vI x3), some (vI x4), some (vI x5)], [], (I, S)) r) : Ev d mX12_free (77, [some (vR (some (22, 0, a0))), some (vI x1), some (vI x2), some (vI x3), some (vI x4), some (vI x5)], [], (I, S)) r :=
  s_iload rfl rfl rfl <|
  s_iconst rfl rfl <|
  s_icmp_ge 162 rfl rfl kt kf
theorem b_X12_free_83 {d : Nat} {r : PO × PM} {I : Nat → Nat → Int} {S : PS} {a0 : Nat} {x1 x2 x3 x4 x5 z : Int} {I1 : Nat → Nat → Int} {S1 : PS} (c : Ca d mX12_canSwap [vR (some (22, 0, a0)), vI 0, vI x4, vI x5] (I, S) (.inl (some (vI z))) (I1, S1)) (k : Ev (d + 1) mX12_free (92, [some (vR (some (22, 0, a0))), some (vI x1), some (vI x2), some (vI x3), some (vI x4), some (vI x5)], [vI z], (I1, S1)) r) : Ev (d + 1) mX12_free (83, [some (vR (some (22, 0, a0))), some (vI x1), some (vI x2), some (vI x3), some (vI x4), some (vI x5)], [], (I, S)) r :=
  s_aload_n rfl rfl rfl <|
  s_iconst rfl rfl <|
  s_iload rfl rfl rfl <|
  s_iload rfl rfl rfl <|
  s_cvI rfl rfl rfl rfl rfl c k
theorem b_X12_free_92 {d : Nat} {r : PO × PM} {I : Nat → Nat → Int} {S : PS} {a0 : Nat} {x1 x2 x3 x4 x5 xs0 : Int} (kt : xs0 ≠ 0 → Ev d mX12_free (98, [some (vR (some (22, 0, a0))), some (vI x1), some (vI x2), some (vI x3), some (vI x4), some (vI x5)], [], (I, S)) r) (kf : xs0 = 0 → Ev d mX12_free (95, [some (vR (some (22, 0, a0))), some (vI x1), some (vI x2), some (vI x3), some (vI x4), some (vI x5)], [], (I, S)) r) : Ev d mX12_free (92, [some (vR (some (22, 0, a0))), some (vI x1), some (vI x2), some (vI x3), some (vI x4), some (vI x5)], [vI xs0], (I, S)) r :=
  s_if_ne 98 rfl rfl kt kf
theorem b_X12_free_95 {d : Nat} {r : PO × PM} {I : Nat → Nat → Int} {S : PS} {a0 : Nat} {x1 x2 x3 x4 x5 : Int} (k : Ev d mX12_free (156, [some (vR (some (22, 0, a0))), some (vI x1), some (vI x2), some (vI x3), some (vI x4), some (vI x5)], [], (I, S)) r) : Ev d mX12_free (95, [some (vR (some (22, 0, a0))), some (vI x1), some (vI x2), some (vI x3), some (vI x4), some (vI x5)], [], (I, S)) r :=
  s_goto 156 rfl rfl k
theorem b_X12_free_98 {d : Nat} {r : PO × PM} {I : Nat → Nat → Int} {S : PS} {a0 : Nat} {x1 x2 x3 x4 x5 : Int} {I1 : Nat → Nat → Int} {S1 : PS} (c : Ca d mX12_tries [vR (some (22, 0, a0))] (I, S) (.inl none) (I1, S1)) (k : Ev (d + 1) mX12_free (102, [some (vR (some (22, 0, a0))), some (vI x1), some (vI x2), some (vI x3), some (vI x4), some (vI x5)], [], (I1, S1)) r) : Ev (d + 1) mX12_free (98, [some (vR (some (22, 0, a0))), some (vI x1), some (vI x2), some (vI x3), some (vI x4), some (vI x5)], [], (I, S)) r :=
  s_aload_n rfl rfl rfl <|
  s_cvV rfl rfl rfl rfl rfl c k
theorem b_X12_free_102 {d : Nat} {r : PO × PM} {I : Nat → Nat → Int} {S : PS} {a0 : Nat} {x1 x2 x3 x4 x5 z : Int} {I1 : Nat → Nat → Int} {S1 : PS} (c : Ca d mX12_swaps [vR (some (22, 0, a0)), vI 18, vI x4, vI x5] (I, S) (.inl (some (vI z))) (I1, S1)) (k : Ev (d + 1) mX12_free (112, [some (vR (some (22, 0, a0))), some (vI x1), some (vI x2), some (vI x3), some (vI x4), some (vI x5)], [vI z], (I1, S1)) r) : Ev (d + 1) mX12_free (102, [some (vR (some (22, 0, a0))), some (vI x1), some (vI x2), some (vI x3), some (vI x4), some (vI x5)], [], (I, S)) r :=
  s_aload_n rfl rfl rfl <|
  s_bipush rfl rfl <|
  s_iload rfl rfl rfl <|
  s_iload rfl rfl rfl <|
  s_cvI rfl rfl rfl rfl rfl c k
theorem b_X12_free_112 {d : Nat} {r : PO × PM} {I : Nat → Nat → Int} {S : PS} {a0 : Nat} {x1 x2 x3 x4 x5 xs0 : Int} (kt : x3 ≠ 1 → Ev d mX12_free (131, [some (vR (some (22, 0, a0))), some (vI x1), some (vI x2), some (vI x3), some (vI x4), some (vI x5)], [], (I, S)) r) (kf : x3 = 1 → Ev d mX12_free (118, [some (vR (some (22, 0, a0))), some (vI x1), some (vI x2), some (vI x3), some (vI x4), some (vI x5)], [], (I, S)) r) : Ev d mX12_free (112, [some (vR (some (22, 0, a0))), some (vI x1), some (vI x2), some (vI x3), some (vI x4), some (vI x5)], [vI xs0], (I, S)) r :=
  s_pop rfl rfl <|
  s_iload_n rfl rfl rfl <|
  s_iconst rfl rfl <|
  s_icmp_ne 131 rfl rfl kt kf
theorem b_X12_free_118 {d : Nat} {r : PO × PM} {I : Nat → Nat → Int} {S : PS} {a0 : Nat} {x1 x2 x3 x4 x5 z : Int} {I1 : Nat → Nat → Int} {S1 : PS} (c : Ca d mX12_freeFor [vR (some (22, 0, a0)), vI 18, vI x1] (I, S) (.inl (some (vI z))) (I1, S1)) (k : Ev (d + 1) mX12_free (125, [some (vR (some (22, 0, a0))), some (vI x1), some (vI x2), some (vI x3), some (vI x4), some (vI x5)], [vI z], (I1, S1)) r) : Ev (d + 1) mX12_free (118, [some (vR (some (22, 0, a0))), some (vI x1), some (vI x2), some (vI x3), some (vI x4), some (vI x5)], [], (I, S)) r :=
  s_aload_n rfl rfl rfl <|
  s_bipush rfl rfl <|
  s_iload_n rfl rfl rfl <|
  s_cvI rfl rfl rfl rfl rfl c k
theorem b_X12_free_125 {d : Nat} {r : PO × PM} {I : Nat → Nat → Int} {S : PS} {a0 : Nat} {x1 x2 x3 x4 x5 xs0 : Int} (kt : xs0 = 0 → Ev d mX12_free (156, [some (vR (some (22, 0, a0))), some (vI x1), some (vI x2), some (vI x3), some (vI x4), some (vI x5)], [], (I, S)) r) (kf : xs0 ≠ 0 → Ev d mX12_free (128, [some (vR (some (22, 0, a0))), some (vI x1), some (vI x2), some (vI x3), some (vI x4), some (vI x5)], [], (I, S)) r) : Ev d mX12_free (125, [some (vR (some (22, 0, a0))), some (vI x1), some (vI x2), some (vI x3), some (vI x4), some (vI x5)], [vI xs0], (I, S)) r :=
  s_if_eq 156 rfl rfl kt kf
theorem b_X12_free_128 {d : Nat} {r : PO × PM} {I : Nat → Nat → Int} {S : PS} {a0 : Nat} {x1 x2 x3 x4 x5 : Int} (k : Ev d mX12_free (139, [some (vR (some (22, 0, a0))), some (vI x1), some (vI x2), some (vI x3), some (vI x4), some (vI x5)], [], (I, S)) r) : Ev d mX12_free (128, [some (vR (some (22, 0, a0))), some (vI x1), some (vI x2), some (vI x3), some (vI x4), some (vI x5)], [], (I, S)) r :=
  s_goto 139 rfl rfl k
theorem b_X12_free_131 {d : Nat} {r : PO × PM} {I : Nat → Nat → Int} {S : PS} {a0 : Nat} {x1 x2 x3 x4 x5 z : Int} {I1 : Nat → Nat → Int} {S1 : PS} (c : Ca d mX12_isFreed [vR (some (22, 0, a0)), vI x1] (I, S) (.inl (some (vI z))) (I1, S1)) (k : Ev (d + 1) mX12_free (136, [some (vR (some (22, 0, a0))), some (vI x1), some (vI x2), some (vI x3), some (vI x4), some (vI x5)], [vI z], (I1, S1)) r) : Ev (d + 1) mX12_free (131, [some (vR (some (22, 0, a0))), some (vI x1), some (vI x2), some (vI x3), some (vI x4), some (vI x5)], [], (I, S)) r :=
  s_aload_n rfl rfl rfl <|
  s_iload_n rfl rfl rfl <|
  s_cvI rfl rfl rfl rfl rfl c k
theorem b_X12_free_136 {d : Nat} {r : PO × PM} {I : Nat → Nat → Int} {S : PS} {a0 : Nat} {x1 x2 x3 x4 x5 xs0 : Int} (kt : xs0 = 0 → Ev d mX12_free (156, [some (vR (some (22, 0, a0))), some (vI x1), some (vI x2), some (vI x3), some (vI x4), some (vI x5)], [], (I, S)) r) (kf : xs0 ≠ 0 → Ev d mX12_free (139, [some (vR (some (22, 0, a0))), some (vI x1), some (vI x2), some (vI x3), some (vI x4), some (vI x5)], [], (I, S)) r) : Ev d mX12_free (136, [some (vR (some (22, 0, a0))), some (vI x1), some (vI x2), some (vI x3), some (vI x4), some (vI x5)], [vI xs0], (I, S)) r :=
  s_if_eq 156 rfl rfl kt kf
theorem b_X12_free_139 {d : Nat} {r : PO × PM} {I : Nat → Nat → Int} {S : PS} {a0 : Nat} {x1 x2 x3 x4 x5 : Int} (kt : x2 ≠ 0 → Ev d mX12_free (147, [some (vR (some (22, 0, a0))), some (vI x1), some (vI x2), some (vI x3), some (vI x4), some (vI x5)], [], (I, S)) r) (kf : x2 = 0 → Ev d mX12_free (143, [some (vR (some (22, 0, a0))), some (vI x1), some (vI x2), some (vI x3), some (vI x4), some (vI x5)], [], (I, S)) r) : Ev d mX12_free (139, [some (vR (some (22, 0, a0))), some (vI x1), some (vI x2), some (vI x3), some (vI x4), some (vI x5)], [], (I, S)) r :=
  s_iload_n rfl rfl rfl <|
  s_if_ne 147 rfl rfl kt kf
theorem b_X12_free_143 {d : Nat} {r : PO × PM} {I : Nat → Nat → Int} {S : PS} {a0 : Nat} {x1 x2 x3 x4 x5 : Int} (k : Ev d mX12_free (155, [some (vR (some (22, 0, a0))), some (vI x1), some (vI x2), some (vI x3), some (vI x4), some (vI x5)], [vI x3], (I, S)) r) : Ev d mX12_free (143, [some (vR (some (22, 0, a0))), some (vI x1), some (vI x2), some (vI x3), some (vI x4), some (vI x5)], [], (I, S)) r :=
  s_iload_n rfl rfl rfl <|
  s_goto 155 rfl rfl k
theorem b_X12_free_147 {d : Nat} {r : PO × PM} {I : Nat → Nat → Int} {S : PS} {a0 : Nat} {x1 x2 x3 x4 x5 : Int} (ho1 : -2147483648 ≤ 10 * x4 ∧ 10 * x4 ≤ 2147483647) (ho2 : -2147483648 ≤ (10 * x4) + x5 ∧ (10 * x4) + x5 ≤ 2147483647) (k : Ev d mX12_free (155, [some (vR (some (22, 0, a0))), some (vI x1), some (vI x2), some (vI x3), some (vI x4), some (vI x5)], [vI ((10 * x4) + x5)], (I, S)) r) : Ev d mX12_free (147, [some (vR (some (22, 0, a0))), some (vI x1), some (vI x2), some (vI x3), some (vI x4), some (vI x5)], [], (I, S)) r :=
  s_bipush rfl rfl <|
  s_iload rfl rfl rfl <|
  s_imulp rfl ho1 <|
  s_iload rfl rfl rfl <|
  s_iaddp rfl ho2 <|
  k
theorem b_X12_free_155 {d : Nat} {I : Nat → Nat → Int} {S : PS} {a0 : Nat} {x1 x2 x3 x4 x5 xs0 : Int} : Ev d mX12_free (155, [some (vR (some (22, 0, a0))), some (vI x1), some (vI x2), some (vI x3), some (vI x4), some (vI x5)], [vI xs0], (I, S)) (.inl (some (vI xs0)), (I, S)) :=
  s_ret rfl rfl
theorem b_X12_free_156 {d : Nat} {r : PO × PM} {I : Nat → Nat → Int} {S : PS} {a0 : Nat} {x1 x2 x3 x4 x5 : Int} (ho1 : -2147483648 ≤ x5 + 1 ∧ x5 + 1 ≤ 2147483647) (k : Ev d mX12_free (77, [some (vR (some (22, 0, a0))), some (vI x1), some (vI x2), some (vI x3), some (vI x4), some (vI (x5 + 1))], [], (I, S)) r) : Ev d mX12_free (156, [some (vR (some (22, 0, a0))), some (vI x1), some (vI x2), some (vI x3), some (vI x4), some (vI x5)], [], (I, S)) r :=
  s_iincp [some (vR (some (22, 0, a0))), some (vI x1), some (vI x2), some (vI x3), some (vI x4), some (vI (x5 + 1))] rfl rfl ho1 rfl <|
  s_goto 77 rfl rfl k
theorem b_X12_free_162 {d : Nat} {r : PO × PM} {I : Nat → Nat → Int} {S : PS} {a0 : Nat} {x1 x2 x3 x4 x5 : Int} (ho1 : -2147483648 ≤ x4 + 1 ∧ x4 + 1 ≤ 2147483647) (k : Ev d mX12_free (65, [some (vR (some (22, 0, a0))), some (vI x1), some (vI x2), some (vI x3), some (vI (x4 + 1)), none], [], (I, S)) r) : Ev d mX12_free (162, [some (vR (some (22, 0, a0))), some (vI x1), some (vI x2), some (vI x3), some (vI x4), some (vI x5)], [], (I, S)) r :=
  s_iincp [some (vR (some (22, 0, a0))), some (vI x1), some (vI x2), some (vI x3), some (vI (x4 + 1)), some (vI x5)] rfl rfl ho1 rfl <|
  s_goto 65 rfl rfl (ev_forget [false, false, false, false, false, true] rfl k)
theorem b_X12_free_168 {d : Nat} {r : PO × PM} {I : Nat → Nat → Int} {S : PS} {a0 : Nat} {x1 x2 x3 x4 : Int} (ho1 : -2147483648 ≤ x3 + 1 ∧ x3 + 1 ≤ 2147483647) (k : Ev d mX12_free (57, [some (vR (some (22, 0, a0))), some (vI x1), some (vI x2), some (vI (x3 + 1)), none, none], [], (I, S)) r) : Ev d mX12_free (168, [some (vR (some (22, 0, a0))), some (vI x1), some (vI x2), some (vI x3), some (vI x4), none], [], (I, S)) r :=
  s_iincp [some (vR (some (22, 0, a0))), some (vI x1), some (vI x2), some (vI (x3 + 1)), some (vI x4), none] rfl rfl ho1 rfl <|
  s_goto 57 rfl rfl (ev_forget [false, false, false, false, true, false] rfl k)
theorem b_X12_free_174 {d : Nat} {I : Nat → Nat → Int} {S : PS} {a0 : Nat} {x1 x2 x3 : Int} : Ev d mX12_free (174, [some (vR (some (22, 0, a0))), some (vI x1), some (vI x2), some (vI x3), none, none], [], (I, S)) (.inl (some (vI (-1))), (I, S)) :=
  s_iconst rfl rfl <|
  s_ret rfl rfl
theorem b_X12_figureOf_0 {d : Nat} {r : PO × PM} {I : Nat → Nat → Int} {S : PS} {a0 : Nat} {x1 x2 : Int} (k : Ev d mX12_figureOf (5, [some (vR (some (22, 0, a0))), some (vI x1), some (vI x2), some (vI x1), some (vI 0)], [], (I, S)) r) : Ev d mX12_figureOf (0, [some (vR (some (22, 0, a0))), some (vI x1), some (vI x2), none, none], [], (I, S)) r :=
  s_iload_n rfl rfl rfl <|
  s_istore_n [some (vR (some (22, 0, a0))), some (vI x1), some (vI x2), some (vI x1), none] rfl rfl <|
  s_iconst rfl rfl <|
  s_istore [some (vR (some (22, 0, a0))), some (vI x1), some (vI x2), some (vI x1), some (vI 0)] rfl rfl <|
  k
theorem b_X12_figureOf_5 {d : Nat} {r : PO × PM} {I : Nat → Nat → Int} {S : PS} {a0 : Nat} {x1 x2 x3 x4 : Int} (kt : x2 ≤ x4 → Ev d mX12_figureOf (21, [some (vR (some (22, 0, a0))), some (vI x1), some (vI x2), some (vI x3), some (vI x4)], [], (I, S)) r) (kf : x4 < x2 → Ev d mX12_figureOf (11, [some (vR (some (22, 0, a0))), some (vI x1), some (vI x2), some (vI x3), some (vI x4)], [], (I, S)) r) : Ev d mX12_figureOf (5, [some (vR (some (22, 0, a0))), some (vI x1), some (vI x2), some (vI x3), some (vI x4)], [], (I, S)) r :=
  s_iload rfl rfl rfl <|
  s_iload_n rfl rfl rfl <|
  s_icmp_ge 21 rfl rfl kt kf
theorem b_X12_figureOf_11 {d : Nat} {r : PO × PM} {I : Nat → Nat → Int} {S : PS} {a0 : Nat} {x1 x2 x3 x4 : Int} (hd1 : (0 ≤ x3 ∧ x3 ≤ 2147483647) ∧ 0 < (5 : Int) ∧ (5 : Int) ≤ 2147483647) (ho2 : -2147483648 ≤ x4 + 1 ∧ x4 + 1 ≤ 2147483647) (k : Ev d mX12_figureOf (5, [some (vR (some (22, 0, a0))), some (vI x1), some (vI x2), some (vI (x3 / 5)), some (vI (x4 + 1))], [], (I, S)) r) : Ev d mX12_figureOf (11, [some (vR (some (22, 0, a0))), some (vI x1), some (vI x2), some (vI x3), some (vI x4)], [], (I, S)) r :=
  s_iload_n rfl rfl rfl <|
  s_iconst rfl rfl <|
  s_idivp rfl hd1 <|
  s_istore_n [some (vR (some (22, 0, a0))), some (vI x1), some (vI x2), some (vI (x3 / 5)), some (vI x4)] rfl rfl <|
  s_iincp [some (vR (some (22, 0, a0))), some (vI x1), some (vI x2), some (vI (x3 / 5)), some (vI (x4 + 1))] rfl rfl ho2 rfl <|
  s_goto 5 rfl rfl k
theorem b_X12_figureOf_21 {d : Nat} {I : Nat → Nat → Int} {S : PS} {a0 : Nat} {x1 x2 x3 x4 : Int} (hd1 : (0 ≤ x3 ∧ x3 ≤ 2147483647) ∧ 0 < (5 : Int) ∧ (5 : Int) ≤ 2147483647) : Ev d mX12_figureOf (21, [some (vR (some (22, 0, a0))), some (vI x1), some (vI x2), some (vI x3), some (vI x4)], [], (I, S)) (.inl (some (vI (x3 % 5))), (I, S)) :=
  s_iload_n rfl rfl rfl <|
  s_iconst rfl rfl <|
  s_iremp rfl hd1 <|
  s_ret rfl rfl
theorem b_X12_step5_0 {d : Nat} {r : PO × PM} {I : Nat → Nat → Int} {S : PS} {a0 : Nat} {x1 : Int} (k : Ev d mX12_step5 (4, [some (vR (some (22, 0, a0))), some (vI x1), some (vI 1), some (vI 0)], [], (I, S)) r) : Ev d mX12_step5 (0, [some (vR (some (22, 0, a0))), some (vI x1), none, none], [], (I, S)) r :=
  s_iconst rfl rfl <|
  s_istore_n [some (vR (some (22, 0, a0))), some (vI x1), some (vI 1), none] rfl rfl <|
  s_iconst rfl rfl <|
  s_istore_n [some (vR (some (22, 0, a0))), some (vI x1), some (vI 1), some (vI 0)] rfl rfl <|
  k
theorem b_X12_step5_4 {d : Nat} {r : PO × PM} {I : Nat → Nat → Int} {S : PS} {a0 : Nat} {x1 x2 x3 : Int} (kt : x1 ≤ x3 → Ev d mX12_step5 (19, [some (vR (some (22, 0, a0))), some (vI x1), some (vI x2), some (vI x3)], [], (I, S)) r) (kf : x3 < x1 → Ev d mX12_step5 (9, [some (vR (some (22, 0, a0))), some (vI x1), some (vI x2), some (vI x3)], [], (I, S)) r) : Ev d mX12_step5 (4, [some (vR (some (22, 0, a0))), some (vI x1), some (vI x2), some (vI x3)], [], (I, S)) r :=
  s_iload_n rfl rfl rfl <|
  s_iload_n rfl rfl rfl <|
  s_icmp_ge 19 rfl rfl kt kf
theorem b_X12_step5_9 {d : Nat} {r : PO × PM} {I : Nat → Nat → Int} {S : PS} {a0 : Nat} {x1 x2 x3 : Int} (ho1 : -2147483648 ≤ 5 * x2 ∧ 5 * x2 ≤ 2147483647) (ho2 : -2147483648 ≤ x3 + 1 ∧ x3 + 1 ≤ 2147483647) (k : Ev d mX12_step5 (4, [some (vR (some (22, 0, a0))), some (vI x1), some (vI (5 * x2)), some (vI (x3 + 1))], [], (I, S)) r) : Ev d mX12_step5 (9, [some (vR (some (22, 0, a0))), some (vI x1), some (vI x2), some (vI x3)], [], (I, S)) r :=
  s_iconst rfl rfl <|
  s_iload_n rfl rfl rfl <|
  s_imulp rfl ho1 <|
  s_istore_n [some (vR (some (22, 0, a0))), some (vI x1), some (vI (5 * x2)), some (vI x3)] rfl rfl <|
  s_iincp [some (vR (some (22, 0, a0))), some (vI x1), some (vI (5 * x2)), some (vI (x3 + 1))] rfl rfl ho2 rfl <|
  s_goto 4 rfl rfl k
theorem b_X12_step5_19 {d : Nat} {I : Nat → Nat → Int} {S : PS} {a0 : Nat} {x1 x2 x3 : Int} : Ev d mX12_step5 (19, [some (vR (some (22, 0, a0))), some (vI x1), some (vI x2), some (vI x3)], [], (I, S)) (.inl (some (vI x2)), (I, S)) :=
  s_iload_n rfl rfl rfl <|
  s_ret rfl rfl
theorem b_X12_laysGame_0 {d : Nat} {r : PO × PM} {I : Nat → Nat → Int} {S : PS} {a0 : Nat} {I1 : Nat → Nat → Int} {S1 : PS} {z : Int} (c : Ca d mX12_step5 [vR (some (22, 0, a0)), vI (I a0 44)] (I, S) (.inl (some (vI z))) (I1, S1)) (k : Ev (d + 1) mX12_laysGame (8, [some (vR (some (22, 0, a0))), none, none, none, none, none, none, none, none, none], [vI z], (I1, S1)) r) : Ev (d + 1) mX12_laysGame (0, [some (vR (some (22, 0, a0))), none, none, none, none, none, none, none, none, none], [], (I, S)) r :=
  s_aload_n rfl rfl rfl <|
  s_aload_n rfl rfl rfl <|
  s_getI rfl rfl rfl <|
  s_cvI rfl rfl rfl rfl rfl c k
theorem b_X12_laysGame_8 {d : Nat} {r : PO × PM} {I : Nat → Nat → Int} {S : PS} {a0 : Nat} {xs0 : Int} (ho1 : -2147483648 ≤ xs0 - 1 ∧ xs0 - 1 ≤ 2147483647) (k : Ev d mX12_laysGame (11, [some (vR (some (22, 0, a0))), some (vI (xs0 - 1)), none, none, none, none, none, none, none, none], [], (I, S)) r) : Ev d mX12_laysGame (8, [some (vR (some (22, 0, a0))), none, none, none, none, none, none, none, none, none], [vI xs0], (I, S)) r :=
  s_iconst rfl rfl <|
  s_isubp rfl ho1 <|
  s_istore_n [some (vR (some (22, 0, a0))), some (vI (xs0 - 1)), none, none, none, none, none, none, none, none] rfl rfl <|
  k
theorem b_X12_laysGame_11 {d : Nat} {r : PO × PM} {I : Nat → Nat → Int} {S : PS} {a0 : Nat} {x1 : Int} (kt : x1 < 0 → Ev d mX12_laysGame (287, [some (vR (some (22, 0, a0))), some (vI x1), none, none, none, none, none, none, none, none], [], (I, S)) r) (kf : 0 ≤ x1 → Ev d mX12_laysGame (15, [some (vR (some (22, 0, a0))), some (vI x1), none, none, none, none, none, none, none, none], [], (I, S)) r) : Ev d mX12_laysGame (11, [some (vR (some (22, 0, a0))), some (vI x1), none, none, none, none, none, none, none, none], [], (I, S)) r :=
  s_iload_n rfl rfl rfl <|
  s_if_lt 287 rfl rfl kt kf
theorem b_X12_laysGame_15 {d : Nat} {r : PO × PM} {I : Nat → Nat → Int} {S : PS} {a0 : Nat} {x1 : Int} (k : Ev d mX12_laysGame (19, [some (vR (some (22, 0, a0))), some (vI x1), some (vI 0), some (vI 0), none, none, none, none, none, none], [], (I, S)) r) : Ev d mX12_laysGame (15, [some (vR (some (22, 0, a0))), some (vI x1), none, none, none, none, none, none, none, none], [], (I, S)) r :=
  s_iconst rfl rfl <|
  s_istore_n [some (vR (some (22, 0, a0))), some (vI x1), some (vI 0), none, none, none, none, none, none, none] rfl rfl <|
  s_iconst rfl rfl <|
  s_istore_n [some (vR (some (22, 0, a0))), some (vI x1), some (vI 0), some (vI 0), none, none, none, none, none, none] rfl rfl <|
  k
theorem b_X12_laysGame_19 {d : Nat} {r : PO × PM} {I : Nat → Nat → Int} {S : PS} {a0 : Nat} {x1 x2 x3 : Int} (kt : I a0 44 ≤ x3 → Ev d mX12_laysGame (72, [some (vR (some (22, 0, a0))), some (vI x1), some (vI x2), some (vI x3), none, none, none, none, none, none], [], (I, S)) r) (kf : x3 < I a0 44 → Ev d mX12_laysGame (27, [some (vR (some (22, 0, a0))), some (vI x1), some (vI x2), some (vI x3), none, none, none, none, none, none], [], (I, S)) r) : Ev d mX12_laysGame (19, [some (vR (some (22, 0, a0))), some (vI x1), some (vI x2), some (vI x3), none, none, none, none, none, none], [], (I, S)) r :=
  s_iload_n rfl rfl rfl <|
  s_aload_n rfl rfl rfl <|
  s_getI rfl rfl rfl <|
  s_icmp_ge 72 rfl rfl kt kf
theorem b_X12_laysGame_27 {d : Nat} {r : PO × PM} {I : Nat → Nat → Int} {S : PS} {a0 : Nat} {x1 x2 x3 z : Int} {I1 : Nat → Nat → Int} {S1 : PS} (c : Ca d mX12_figureOf [vR (some (22, 0, a0)), vI x1, vI x3] (I, S) (.inl (some (vI z))) (I1, S1)) (k : Ev (d + 1) mX12_laysGame (33, [some (vR (some (22, 0, a0))), some (vI x1), some (vI x2), some (vI x3), none, none, none, none, none, none], [vI z], (I1, S1)) r) : Ev (d + 1) mX12_laysGame (27, [some (vR (some (22, 0, a0))), some (vI x1), some (vI x2), some (vI x3), none, none, none, none, none, none], [], (I, S)) r :=
  s_aload_n rfl rfl rfl <|
  s_iload_n rfl rfl rfl <|
  s_iload_n rfl rfl rfl <|
  s_cvI rfl rfl rfl rfl rfl c k
theorem b_X12_laysGame_33 {d : Nat} {r : PO × PM} {I : Nat → Nat → Int} {S : PS} {a0 p1 q1 p2 q2 : Nat} {x1 x2 x3 xs0 : Int} (hr1 : S.1 a0 39 = some (0, q1, p1)) (hr2 : S.1 a0 42 = some (0, q2, p2)) (hi3 : 0 ≤ x3 ∧ x3 < (q2 : Nat)) (ho4 : -2147483648 ≤ 18 + (I p2 x3.toNat) ∧ 18 + (I p2 x3.toNat) ≤ 2147483647) (ho5 : -2147483648 ≤ xs0 - 1 ∧ xs0 - 1 ≤ 2147483647) (hi6 : 0 ≤ 18 + (I p2 x3.toNat) ∧ 18 + (I p2 x3.toNat) < (q1 : Nat)) (kt : xs0 ≤ 0 → Ev d mX12_laysGame (63, [some (vR (some (22, 0, a0))), some (vI x1), some (vI x2), some (vI x3), some (vI xs0), none, none, none, none, none], [vI x2], ((up2 I p1 ((18 + (I p2 x3.toNat)).toNat) (xs0 - 1)), S)) r) (kf : 0 < xs0 → Ev d mX12_laysGame (59, [some (vR (some (22, 0, a0))), some (vI x1), some (vI x2), some (vI x3), some (vI xs0), none, none, none, none, none], [vI x2], ((up2 I p1 ((18 + (I p2 x3.toNat)).toNat) (xs0 - 1)), S)) r) : Ev d mX12_laysGame (33, [some (vR (some (22, 0, a0))), some (vI x1), some (vI x2), some (vI x3), none, none, none, none, none, none], [vI xs0], (I, S)) r :=
  s_istore [some (vR (some (22, 0, a0))), some (vI x1), some (vI x2), some (vI x3), some (vI xs0), none, none, none, none, none] rfl rfl <|
  s_aload_n rfl rfl rfl <|
  s_getR rfl rfl rfl hr1 <|
  s_bipush rfl rfl <|
  s_aload_n rfl rfl rfl <|
  s_getR rfl rfl rfl hr2 <|
  s_iload_n rfl rfl rfl <|
  s_iald rfl rfl hi3 <|
  s_iaddp rfl ho4 <|
  s_iload rfl rfl rfl <|
  s_iconst rfl rfl <|
  s_isubp rfl ho5 <|
  s_iast rfl hi6 <|
  s_iload_n rfl rfl rfl <|
  s_iload rfl rfl rfl <|
  s_if_le 63 rfl rfl kt kf
theorem b_X12_laysGame_59 {d : Nat} {r : PO × PM} {I : Nat → Nat → Int} {S : PS} {a0 : Nat} {x1 x2 x3 x4 xs0 : Int} (k : Ev d mX12_laysGame (64, [some (vR (some (22, 0, a0))), some (vI x1), some (vI x2), some (vI x3), some (vI x4), none, none, none, none, none], [vI 1, vI xs0], (I, S)) r) : Ev d mX12_laysGame (59, [some (vR (some (22, 0, a0))), some (vI x1), some (vI x2), some (vI x3), some (vI x4), none, none, none, none, none], [vI xs0], (I, S)) r :=
  s_iconst rfl rfl <|
  s_goto 64 rfl rfl k
theorem b_X12_laysGame_63 {d : Nat} {r : PO × PM} {I : Nat → Nat → Int} {S : PS} {a0 : Nat} {x1 x2 x3 x4 xs0 : Int} (k : Ev d mX12_laysGame (64, [some (vR (some (22, 0, a0))), some (vI x1), some (vI x2), some (vI x3), some (vI x4), none, none, none, none, none], [vI 0, vI xs0], (I, S)) r) : Ev d mX12_laysGame (63, [some (vR (some (22, 0, a0))), some (vI x1), some (vI x2), some (vI x3), some (vI x4), none, none, none, none, none], [vI xs0], (I, S)) r :=
  s_iconst rfl rfl <|
  k
theorem b_X12_laysGame_64 {d : Nat} {r : PO × PM} {I : Nat → Nat → Int} {S : PS} {a0 : Nat} {x1 x2 x3 x4 xs0 xs1 : Int} (ho1 : -2147483648 ≤ xs0 + xs1 ∧ xs0 + xs1 ≤ 2147483647) (ho2 : -2147483648 ≤ x3 + 1 ∧ x3 + 1 ≤ 2147483647) (k : Ev d mX12_laysGame (19, [some (vR (some (22, 0, a0))), some (vI x1), some (vI (xs0 + xs1)), some (vI (x3 + 1)), none, none, none, none, none, none], [], (I, S)) r) : Ev d mX12_laysGame (64, [some (vR (some (22, 0, a0))), some (vI x1), some (vI x2), some (vI x3), some (vI x4), none, none, none, none, none], [vI xs1, vI xs0], (I, S)) r :=
  s_iaddp rfl ho1 <|
  s_istore_n [some (vR (some (22, 0, a0))), some (vI x1), some (vI (xs0 + xs1)), some (vI x3), some (vI x4), none, none, none, none, none] rfl rfl <|
  s_iincp [some (vR (some (22, 0, a0))), some (vI x1), some (vI (xs0 + xs1)), some (vI (x3 + 1)), some (vI x4), none, none, none, none, none] rfl rfl ho2 rfl <|
  s_goto 19 rfl rfl (ev_forget [false, false, false, false, true, false, false, false, false, false] rfl k)
theorem b_X12_laysGame_72 {d : Nat} {r : PO × PM} {I : Nat → Nat → Int} {S : PS} {a0 : Nat} {x1 x2 x3 : Int} (hd1 : (0 ≤ x2 ∧ x2 ≤ 2147483647) ∧ 0 < (2 : Int) ∧ (2 : Int) ≤ 2147483647) (kt : x2 % 2 ≠ 0 → Ev d mX12_laysGame (82, [some (vR (some (22, 0, a0))), some (vI x1), some (vI x2), some (vI x3), none, none, none, none, none, none], [], (I, S)) r) (kf : x2 % 2 = 0 → Ev d mX12_laysGame (78, [some (vR (some (22, 0, a0))), some (vI x1), some (vI x2), some (vI x3), none, none, none, none, none, none], [], (I, S)) r) : Ev d mX12_laysGame (72, [some (vR (some (22, 0, a0))), some (vI x1), some (vI x2), some (vI x3), none, none, none, none, none, none], [], (I, S)) r :=
  s_iload_n rfl rfl rfl <|
  s_iconst rfl rfl <|
  s_iremp rfl hd1 <|
  s_if_ne 82 rfl rfl kt kf
theorem b_X12_laysGame_78 {d : Nat} {r : PO × PM} {I : Nat → Nat → Int} {S : PS} {a0 : Nat} {x1 x2 x3 : Int} (k : Ev d mX12_laysGame (83, [some (vR (some (22, 0, a0))), some (vI x1), some (vI x2), some (vI x3), none, none, none, none, none, none], [vI 1], (I, S)) r) : Ev d mX12_laysGame (78, [some (vR (some (22, 0, a0))), some (vI x1), some (vI x2), some (vI x3), none, none, none, none, none, none], [], (I, S)) r :=
  s_iconst rfl rfl <|
  s_goto 83 rfl rfl k
theorem b_X12_laysGame_82 {d : Nat} {r : PO × PM} {I : Nat → Nat → Int} {S : PS} {a0 : Nat} {x1 x2 x3 : Int} (k : Ev d mX12_laysGame (83, [some (vR (some (22, 0, a0))), some (vI x1), some (vI x2), some (vI x3), none, none, none, none, none, none], [vI 0], (I, S)) r) : Ev d mX12_laysGame (82, [some (vR (some (22, 0, a0))), some (vI x1), some (vI x2), some (vI x3), none, none, none, none, none, none], [], (I, S)) r :=
  s_iconst rfl rfl <|
  k
theorem b_X12_laysGame_83 {d : Nat} {r : PO × PM} {I : Nat → Nat → Int} {S : PS} {a0 : Nat} {x1 x2 x3 xs0 : Int} (kt : x2 ≠ I a0 44 → Ev d mX12_laysGame (96, [some (vR (some (22, 0, a0))), some (vI x1), some (vI x2), some (vI xs0), none, none, none, none, none, none], [], (I, S)) r) (kf : x2 = I a0 44 → Ev d mX12_laysGame (92, [some (vR (some (22, 0, a0))), some (vI x1), some (vI x2), some (vI xs0), none, none, none, none, none, none], [], (I, S)) r) : Ev d mX12_laysGame (83, [some (vR (some (22, 0, a0))), some (vI x1), some (vI x2), some (vI x3), none, none, none, none, none, none], [vI xs0], (I, S)) r :=
  s_istore_n [some (vR (some (22, 0, a0))), some (vI x1), some (vI x2), some (vI xs0), none, none, none, none, none, none] rfl rfl <|
  s_iload_n rfl rfl rfl <|
  s_aload_n rfl rfl rfl <|
  s_getI rfl rfl rfl <|
  s_icmp_ne 96 rfl rfl kt kf
theorem b_X12_laysGame_92 {d : Nat} {r : PO × PM} {I : Nat → Nat → Int} {S : PS} {a0 : Nat} {x1 x2 x3 : Int} (k : Ev d mX12_laysGame (97, [some (vR (some (22, 0, a0))), some (vI x1), some (vI x2), some (vI x3), none, none, none, none, none, none], [vI 1], (I, S)) r) : Ev d mX12_laysGame (92, [some (vR (some (22, 0, a0))), some (vI x1), some (vI x2), some (vI x3), none, none, none, none, none, none], [], (I, S)) r :=
  s_iconst rfl rfl <|
  s_goto 97 rfl rfl k
theorem b_X12_laysGame_96 {d : Nat} {r : PO × PM} {I : Nat → Nat → Int} {S : PS} {a0 : Nat} {x1 x2 x3 : Int} (k : Ev d mX12_laysGame (97, [some (vR (some (22, 0, a0))), some (vI x1), some (vI x2), some (vI x3), none, none, none, none, none, none], [vI 0], (I, S)) r) : Ev d mX12_laysGame (96, [some (vR (some (22, 0, a0))), some (vI x1), some (vI x2), some (vI x3), none, none, none, none, none, none], [], (I, S)) r :=
  s_iconst rfl rfl <|
  k
theorem b_X12_laysGame_97 {d : Nat} {r : PO × PM} {I : Nat → Nat → Int} {S : PS} {a0 : Nat} {x1 x2 x3 xs0 : Int} (k : Ev d mX12_laysGame (108, [some (vR (some (22, 0, a0))), some (vI x1), some (vI x2), some (vI x3), some (vI xs0), some (vI 0), some (vI 0), some (vI 0), none, none], [], (I, S)) r) : Ev d mX12_laysGame (97, [some (vR (some (22, 0, a0))), some (vI x1), some (vI x2), some (vI x3), none, none, none, none, none, none], [vI xs0], (I, S)) r :=
  s_istore [some (vR (some (22, 0, a0))), some (vI x1), some (vI x2), some (vI x3), some (vI xs0), none, none, none, none, none] rfl rfl <|
  s_iconst rfl rfl <|
  s_istore [some (vR (some (22, 0, a0))), some (vI x1), some (vI x2), some (vI x3), some (vI xs0), some (vI 0), none, none, none, none] rfl rfl <|
  s_iconst rfl rfl <|
  s_istore [some (vR (some (22, 0, a0))), some (vI x1), some (vI x2), some (vI x3), some (vI xs0), some (vI 0), some (vI 0), none, none, none] rfl rfl <|
  s_iconst rfl rfl <|
  s_istore [some (vR (some (22, 0, a0))), some (vI x1), some (vI x2), some (vI x3), some (vI xs0), some (vI 0), some (vI 0), some (vI 0), none, none] rfl rfl <|
  k
theorem b_X12_laysGame_108 {d : Nat} {r : PO × PM} {I : Nat → Nat → Int} {S : PS} {a0 : Nat} {x1 x2 x3 x4 x5 x6 x7 : Int} (kt : I a0 44 ≤ x7 → Ev d mX12_laysGame (218, [some (vR (some (22, 0, a0))), some (vI x1), some (vI x2), some (vI x3), some (vI x4), some (vI x5), some (vI x6), some (vI x7), none, none], [], (I, S)) r) (kf : x7 < I a0 44 → Ev d mX12_laysGame (117, [some (vR (some (22, 0, a0))), some (vI x1), some (vI x2), some (vI x3), some (vI x4), some (vI x5), some (vI x6), some (vI x7), none, none], [], (I, S)) r) : Ev d mX12_laysGame (108, [some (vR (some (22, 0, a0))), some (vI x1), some (vI x2), some (vI x3), some (vI x4), some (vI x5), some (vI x6), some (vI x7), none, none], [], (I, S)) r :=
  s_iload rfl rfl rfl <|
  s_aload_n rfl rfl rfl <|
  s_getI rfl rfl rfl <|
  s_icmp_ge 218 rfl rfl kt kf
theorem b_X12_laysGame_117 {d : Nat} {r : PO × PM} {I : Nat → Nat → Int} {S : PS} {a0 : Nat} {x1 x2 x3 x4 x5 x6 x7 : Int} (k : Ev d mX12_laysGame (120, [some (vR (some (22, 0, a0))), some (vI x1), some (vI x2), some (vI x3), some (vI x4), some (vI x5), some (vI x6), some (vI x7), some (vI 0), none], [], (I, S)) r) : Ev d mX12_laysGame (117, [some (vR (some (22, 0, a0))), some (vI x1), some (vI x2), some (vI x3), some (vI x4), some (vI x5), some (vI x6), some (vI x7), none, none], [], (I, S)) r :=
  s_iconst rfl rfl <|
  s_istore [some (vR (some (22, 0, a0))), some (vI x1), some (vI x2), some (vI x3), some (vI x4), some (vI x5), some (vI x6), some (vI x7), some (vI 0), none] rfl rfl <|
  k
theorem b_X12_laysGame_120 {d : Nat} {r : PO × PM} {I : Nat → Nat → Int} {S : PS} {a0 : Nat} {x1 x2 x3 x4 x5 x6 x7 x8 : Int} (kt : 4 ≤ x8 → Ev d mX12_laysGame (212, [some (vR (some (22, 0, a0))), some (vI x1), some (vI x2), some (vI x3), some (vI x4), some (vI x5), some (vI x6), some (vI x7), some (vI x8), none], [], (I, S)) r) (kf : x8 < 4 → Ev d mX12_laysGame (126, [some (vR (some (22, 0, a0))), some (vI x1), some (vI x2), some (vI x3), some (vI x4), some (vI x5), some (vI x6), some (vI x7), some (vI x8), none], [], (I, S)) r) : Ev d mX12_laysGame (120, [some (vR (some (22, 0, a0))), some (vI x1), some (vI x2), some (vI x3), some (vI x4), some (vI x5), some (vI x6), some (vI x7), some (vI x8), none], [], (I, S)) r :=
  s_iload rfl rfl rfl <|
  s_iconst rfl rfl <|
  s_icmp_ge 212 rfl rfl kt kf
theorem b_X12_laysGame_126 {d : Nat} {r : PO × PM} {I : Nat → Nat → Int} {S : PS} {a0 p1 q1 : Nat} {x1 x2 x3 x4 x5 x6 x7 x8 z : Int} {I1 : Nat → Nat → Int} {S1 : PS} (hr1 : S.1 a0 42 = some (0, q1, p1)) (hi2 : 0 ≤ x7 ∧ x7 < (q1 : Nat)) (c : Ca d mX12_canPaint [vR (some (22, 0, a0)), vI 18, vI (I p1 x7.toNat), vI x8] (I, S) (.inl (some (vI z))) (I1, S1)) (k : Ev (d + 1) mX12_laysGame (141, [some (vR (some (22, 0, a0))), some (vI x1), some (vI x2), some (vI x3), some (vI x4), some (vI x5), some (vI x6), some (vI x7), some (vI x8), none], [vI z], (I1, S1)) r) : Ev (d + 1) mX12_laysGame (126, [some (vR (some (22, 0, a0))), some (vI x1), some (vI x2), some (vI x3), some (vI x4), some (vI x5), some (vI x6), some (vI x7), some (vI x8), none], [], (I, S)) r :=
  s_aload_n rfl rfl rfl <|
  s_bipush rfl rfl <|
  s_aload_n rfl rfl rfl <|
  s_getR rfl rfl rfl hr1 <|
  s_iload rfl rfl rfl <|
  s_iald rfl rfl hi2 <|
  s_iload rfl rfl rfl <|
  s_cvI rfl rfl rfl rfl rfl c k
theorem b_X12_laysGame_141 {d : Nat} {r : PO × PM} {I : Nat → Nat → Int} {S : PS} {a0 : Nat} {x1 x2 x3 x4 x5 x6 x7 x8 xs0 : Int} (kt : xs0 ≠ 0 → Ev d mX12_laysGame (147, [some (vR (some (22, 0, a0))), some (vI x1), some (vI x2), some (vI x3), some (vI x4), some (vI x5), some (vI x6), some (vI x7), some (vI x8), none], [], (I, S)) r) (kf : xs0 = 0 → Ev d mX12_laysGame (144, [some (vR (some (22, 0, a0))), some (vI x1), some (vI x2), some (vI x3), some (vI x4), some (vI x5), some (vI x6), some (vI x7), some (vI x8), none], [], (I, S)) r) : Ev d mX12_laysGame (141, [some (vR (some (22, 0, a0))), some (vI x1), some (vI x2), some (vI x3), some (vI x4), some (vI x5), some (vI x6), some (vI x7), some (vI x8), none], [vI xs0], (I, S)) r :=
  s_if_ne 147 rfl rfl kt kf
theorem b_X12_laysGame_144 {d : Nat} {r : PO × PM} {I : Nat → Nat → Int} {S : PS} {a0 : Nat} {x1 x2 x3 x4 x5 x6 x7 x8 : Int} (k : Ev d mX12_laysGame (206, [some (vR (some (22, 0, a0))), some (vI x1), some (vI x2), some (vI x3), some (vI x4), some (vI x5), some (vI x6), some (vI x7), some (vI x8), none], [], (I, S)) r) : Ev d mX12_laysGame (144, [some (vR (some (22, 0, a0))), some (vI x1), some (vI x2), some (vI x3), some (vI x4), some (vI x5), some (vI x6), some (vI x7), some (vI x8), none], [], (I, S)) r :=
  s_goto 206 rfl rfl k
theorem b_X12_laysGame_147 {d : Nat} {r : PO × PM} {I : Nat → Nat → Int} {S : PS} {a0 p1 q1 : Nat} {x1 x2 x3 x4 x5 x6 x7 x8 z : Int} {I1 : Nat → Nat → Int} {S1 : PS} (hr1 : S.1 a0 46 = some (0, q1, p1)) (ho2 : -2147483648 ≤ x8 + 1 ∧ x8 + 1 ≤ 2147483647) (c : Ca d mX12_step5 [vR (some (22, 0, a0)), vI x7] (I, S) (.inl (some (vI z))) (I1, S1)) (k : Ev (d + 1) mX12_laysGame (165, [some (vR (some (22, 0, a0))), some (vI x1), some (vI x2), some (vI x3), some (vI x4), some (vI x5), some (vI 1), some (vI x7), some (vI x8), none], [vI z, vI (x8 + 1), vI x1, vR (some (0, q1, p1))], (I1, S1)) r) : Ev (d + 1) mX12_laysGame (147, [some (vR (some (22, 0, a0))), some (vI x1), some (vI x2), some (vI x3), some (vI x4), some (vI x5), some (vI x6), some (vI x7), some (vI x8), none], [], (I, S)) r :=
  s_iconst rfl rfl <|
  s_istore [some (vR (some (22, 0, a0))), some (vI x1), some (vI x2), some (vI x3), some (vI x4), some (vI x5), some (vI 1), some (vI x7), some (vI x8), none] rfl rfl <|
  s_aload_n rfl rfl rfl <|
  s_getR rfl rfl rfl hr1 <|
  s_iload_n rfl rfl rfl <|
  s_iload rfl rfl rfl <|
  s_iconst rfl rfl <|
  s_iaddp rfl ho2 <|
  s_aload_n rfl rfl rfl <|
  s_iload rfl rfl rfl <|
  s_cvI rfl rfl rfl rfl rfl c k
theorem b_X12_laysGame_165 {d : Nat} {r : PO × PM} {I : Nat → Nat → Int} {S : PS} {a0 ns0 as0 : Nat} {x1 x2 x3 x4 x5 x6 x7 x8 xs1 xs2 xs3 : Int} (ho1 : -2147483648 ≤ xs2 * xs3 ∧ xs2 * xs3 ≤ 2147483647) (ho2 : -2147483648 ≤ xs1 + (xs2 * xs3) ∧ xs1 + (xs2 * xs3) ≤ 2147483647) (hi3 : 0 ≤ xs1 + (xs2 * xs3) ∧ xs1 + (xs2 * xs3) < (ns0 : Nat)) (kt : x4 ≠ 0 → Ev d mX12_laysGame (181, [some (vR (some (22, 0, a0))), some (vI x1), some (vI x2), some (vI x3), some (vI x4), some (vI x5), some (vI x6), some (vI x7), some (vI x8), some (vI (I as0 (xs1 + (xs2 * xs3)).toNat))], [], (I, S)) r) (kf : x4 = 0 → Ev d mX12_laysGame (175, [some (vR (some (22, 0, a0))), some (vI x1), some (vI x2), some (vI x3), some (vI x4), some (vI x5), some (vI x6), some (vI x7), some (vI x8), some (vI (I as0 (xs1 + (xs2 * xs3)).toNat))], [], (I, S)) r) : Ev d mX12_laysGame (165, [some (vR (some (22, 0, a0))), some (vI x1), some (vI x2), some (vI x3), some (vI x4), some (vI x5), some (vI x6), some (vI x7), some (vI x8), none], [vI xs3, vI xs2, vI xs1, vR (some (0, ns0, as0))], (I, S)) r :=
  s_imulp rfl ho1 <|
  s_iaddp rfl ho2 <|
  s_iald rfl rfl hi3 <|
  s_istore [some (vR (some (22, 0, a0))), some (vI x1), some (vI x2), some (vI x3), some (vI x4), some (vI x5), some (vI x6), some (vI x7), some (vI x8), some (vI (I as0 (xs1 + (xs2 * xs3)).toNat))] rfl rfl <|
  s_iload rfl rfl rfl <|
  s_if_ne 181 rfl rfl kt kf
theorem b_X12_laysGame_175 {d : Nat} {r : PO × PM} {I : Nat → Nat → Int} {S : PS} {a0 : Nat} {x1 x2 x3 x4 x5 x6 x7 x8 x9 : Int} (kt : x9 ≠ 1 → Ev d mX12_laysGame (185, [some (vR (some (22, 0, a0))), some (vI x1), some (vI x2), some (vI x3), some (vI x4), some (vI x5), some (vI x6), some (vI x7), some (vI x8), some (vI x9)], [], (I, S)) r) (kf : x9 = 1 → Ev d mX12_laysGame (181, [some (vR (some (22, 0, a0))), some (vI x1), some (vI x2), some (vI x3), some (vI x4), some (vI x5), some (vI x6), some (vI x7), some (vI x8), some (vI x9)], [], (I, S)) r) : Ev d mX12_laysGame (175, [some (vR (some (22, 0, a0))), some (vI x1), some (vI x2), some (vI x3), some (vI x4), some (vI x5), some (vI x6), some (vI x7), some (vI x8), some (vI x9)], [], (I, S)) r :=
  s_iload rfl rfl rfl <|
  s_iconst rfl rfl <|
  s_icmp_ne 185 rfl rfl kt kf
theorem b_X12_laysGame_181 {d : Nat} {r : PO × PM} {I : Nat → Nat → Int} {S : PS} {a0 : Nat} {x1 x2 x3 x4 x5 x6 x7 x8 x9 : Int} (k : Ev d mX12_laysGame (186, [some (vR (some (22, 0, a0))), some (vI x1), some (vI x2), some (vI x3), some (vI x4), some (vI x5), some (vI x6), some (vI x7), some (vI x8), some (vI x9)], [vI 1], (I, S)) r) : Ev d mX12_laysGame (181, [some (vR (some (22, 0, a0))), some (vI x1), some (vI x2), some (vI x3), some (vI x4), some (vI x5), some (vI x6), some (vI x7), some (vI x8), some (vI x9)], [], (I, S)) r :=
  s_iconst rfl rfl <|
  s_goto 186 rfl rfl k
theorem b_X12_laysGame_185 {d : Nat} {r : PO × PM} {I : Nat → Nat → Int} {S : PS} {a0 : Nat} {x1 x2 x3 x4 x5 x6 x7 x8 x9 : Int} (k : Ev d mX12_laysGame (186, [some (vR (some (22, 0, a0))), some (vI x1), some (vI x2), some (vI x3), some (vI x4), some (vI x5), some (vI x6), some (vI x7), some (vI x8), some (vI x9)], [vI 0], (I, S)) r) : Ev d mX12_laysGame (185, [some (vR (some (22, 0, a0))), some (vI x1), some (vI x2), some (vI x3), some (vI x4), some (vI x5), some (vI x6), some (vI x7), some (vI x8), some (vI x9)], [], (I, S)) r :=
  s_iconst rfl rfl <|
  k
theorem b_X12_laysGame_186 {d : Nat} {r : PO × PM} {I : Nat → Nat → Int} {S : PS} {a0 : Nat} {x1 x2 x3 x4 x5 x6 x7 x8 x9 xs0 : Int} (kt : x5 ≠ 0 → Ev d mX12_laysGame (199, [some (vR (some (22, 0, a0))), some (vI x1), some (vI x2), some (vI x3), some (vI xs0), some (vI x5), some (vI x6), some (vI x7), some (vI x8), some (vI x9)], [], (I, S)) r) (kf : x5 = 0 → Ev d mX12_laysGame (193, [some (vR (some (22, 0, a0))), some (vI x1), some (vI x2), some (vI x3), some (vI xs0), some (vI x5), some (vI x6), some (vI x7), some (vI x8), some (vI x9)], [], (I, S)) r) : Ev d mX12_laysGame (186, [some (vR (some (22, 0, a0))), some (vI x1), some (vI x2), some (vI x3), some (vI x4), some (vI x5), some (vI x6), some (vI x7), some (vI x8), some (vI x9)], [vI xs0], (I, S)) r :=
  s_istore [some (vR (some (22, 0, a0))), some (vI x1), some (vI x2), some (vI x3), some (vI xs0), some (vI x5), some (vI x6), some (vI x7), some (vI x8), some (vI x9)] rfl rfl <|
  s_iload rfl rfl rfl <|
  s_if_ne 199 rfl rfl kt kf
theorem b_X12_laysGame_193 {d : Nat} {r : PO × PM} {I : Nat → Nat → Int} {S : PS} {a0 : Nat} {x1 x2 x3 x4 x5 x6 x7 x8 x9 : Int} (kt : x9 ≠ 2 → Ev d mX12_laysGame (203, [some (vR (some (22, 0, a0))), some (vI x1), some (vI x2), some (vI x3), some (vI x4), some (vI x5), some (vI x6), some (vI x7), some (vI x8), some (vI x9)], [], (I, S)) r) (kf : x9 = 2 → Ev d mX12_laysGame (199, [some (vR (some (22, 0, a0))), some (vI x1), some (vI x2), some (vI x3), some (vI x4), some (vI x5), some (vI x6), some (vI x7), some (vI x8), some (vI x9)], [], (I, S)) r) : Ev d mX12_laysGame (193, [some (vR (some (22, 0, a0))), some (vI x1), some (vI x2), some (vI x3), some (vI x4), some (vI x5), some (vI x6), some (vI x7), some (vI x8), some (vI x9)], [], (I, S)) r :=
  s_iload rfl rfl rfl <|
  s_iconst rfl rfl <|
  s_icmp_ne 203 rfl rfl kt kf
theorem b_X12_laysGame_199 {d : Nat} {r : PO × PM} {I : Nat → Nat → Int} {S : PS} {a0 : Nat} {x1 x2 x3 x4 x5 x6 x7 x8 x9 : Int} (k : Ev d mX12_laysGame (204, [some (vR (some (22, 0, a0))), some (vI x1), some (vI x2), some (vI x3), some (vI x4), some (vI x5), some (vI x6), some (vI x7), some (vI x8), some (vI x9)], [vI 1], (I, S)) r) : Ev d mX12_laysGame (199, [some (vR (some (22, 0, a0))), some (vI x1), some (vI x2), some (vI x3), some (vI x4), some (vI x5), some (vI x6), some (vI x7), some (vI x8), some (vI x9)], [], (I, S)) r :=
  s_iconst rfl rfl <|
  s_goto 204 rfl rfl k
theorem b_X12_laysGame_203 {d : Nat} {r : PO × PM} {I : Nat → Nat → Int} {S : PS} {a0 : Nat} {x1 x2 x3 x4 x5 x6 x7 x8 x9 : Int} (k : Ev d mX12_laysGame (204, [some (vR (some (22, 0, a0))), some (vI x1), some (vI x2), some (vI x3), some (vI x4), some (vI x5), some (vI x6), some (vI x7), some (vI x8), some (vI x9)], [vI 0], (I, S)) r) : Ev d mX12_laysGame (203, [some (vR (some (22, 0, a0))), some (vI x1), some (vI x2), some (vI x3), some (vI x4), some (vI x5), some (vI x6), some (vI x7), some (vI x8), some (vI x9)], [], (I, S)) r :=
  s_iconst rfl rfl <|
  k
theorem b_X12_laysGame_204 {d : Nat} {r : PO × PM} {I : Nat → Nat → Int} {S : PS} {a0 : Nat} {x1 x2 x3 x4 x5 x6 x7 x8 x9 xs0 : Int} (k : Ev d mX12_laysGame (206, [some (vR (some (22, 0, a0))), some (vI x1), some (vI x2), some (vI x3), some (vI x4), some (vI xs0), some (vI x6), some (vI x7), some (vI x8), none], [], (I, S)) r) : Ev d mX12_laysGame (204, [some (vR (some (22, 0, a0))), some (vI x1), some (vI x2), some (vI x3), some (vI x4), some (vI x5), some (vI x6), some (vI x7), some (vI x8), some (vI x9)], [vI xs0], (I, S)) r :=
  s_istore [some (vR (some (22, 0, a0))), some (vI x1), some (vI x2), some (vI x3), some (vI x4), some (vI xs0), some (vI x6), some (vI x7), some (vI x8), some (vI x9)] rfl rfl <|
  (ev_forget [false, false, false, false, false, false, false, false, false, true] rfl k)
theorem b_X12_laysGame_206 {d : Nat} {r : PO × PM} {I : Nat → Nat → Int} {S : PS} {a0 : Nat} {x1 x2 x3 x4 x5 x6 x7 x8 : Int} (ho1 : -2147483648 ≤ x8 + 1 ∧ x8 + 1 ≤ 2147483647) (k : Ev d mX12_laysGame (120, [some (vR (some (22, 0, a0))), some (vI x1), some (vI x2), some (vI x3), some (vI x4), some (vI x5), some (vI x6), some (vI x7), some (vI (x8 + 1)), none], [], (I, S)) r) : Ev d mX12_laysGame (206, [some (vR (some (22, 0, a0))), some (vI x1), some (vI x2), some (vI x3), some (vI x4), some (vI x5), some (vI x6), some (vI x7), some (vI x8), none], [], (I, S)) r :=
  s_iincp [some (vR (some (22, 0, a0))), some (vI x1), some (vI x2), some (vI x3), some (vI x4), some (vI x5), some (vI x6), some (vI x7), some (vI (x8 + 1)), none] rfl rfl ho1 rfl <|
  s_goto 120 rfl rfl k
theorem b_X12_laysGame_212 {d : Nat} {r : PO × PM} {I : Nat → Nat → Int} {S : PS} {a0 : Nat} {x1 x2 x3 x4 x5 x6 x7 x8 : Int} (ho1 : -2147483648 ≤ x7 + 1 ∧ x7 + 1 ≤ 2147483647) (k : Ev d mX12_laysGame (108, [some (vR (some (22, 0, a0))), some (vI x1), some (vI x2), some (vI x3), some (vI x4), some (vI x5), some (vI x6), some (vI (x7 + 1)), none, none], [], (I, S)) r) : Ev d mX12_laysGame (212, [some (vR (some (22, 0, a0))), some (vI x1), some (vI x2), some (vI x3), some (vI x4), some (vI x5), some (vI x6), some (vI x7), some (vI x8), none], [], (I, S)) r :=
  s_iincp [some (vR (some (22, 0, a0))), some (vI x1), some (vI x2), some (vI x3), some (vI x4), some (vI x5), some (vI x6), some (vI (x7 + 1)), some (vI x8), none] rfl rfl ho1 rfl <|
  s_goto 108 rfl rfl (ev_forget [false, false, false, false, false, false, false, false, true, false] rfl k)
theorem b_X12_laysGame_218 {d : Nat} {r : PO × PM} {I : Nat → Nat → Int} {S : PS} {a0 : Nat} {x1 x2 x3 x4 x5 x6 x7 : Int} (kt : x6 ≠ 0 → Ev d mX12_laysGame (242, [some (vR (some (22, 0, a0))), some (vI x1), some (vI x2), some (vI x3), some (vI x4), some (vI x5), some (vI x6), some (vI x7), none, none], [], (I, S)) r) (kf : x6 = 0 → Ev d mX12_laysGame (223, [some (vR (some (22, 0, a0))), some (vI x1), some (vI x2), some (vI x3), some (vI x4), some (vI x5), some (vI x6), some (vI x7), none, none], [], (I, S)) r) : Ev d mX12_laysGame (218, [some (vR (some (22, 0, a0))), some (vI x1), some (vI x2), some (vI x3), some (vI x4), some (vI x5), some (vI x6), some (vI x7), none, none], [], (I, S)) r :=
  s_iload rfl rfl rfl <|
  s_if_ne 242 rfl rfl kt kf
theorem b_X12_laysGame_223 {d : Nat} {r : PO × PM} {I : Nat → Nat → Int} {S : PS} {a0 p1 q1 : Nat} {x1 x2 x3 x4 x5 x6 x7 : Int} (hr1 : S.1 a0 46 = some (0, q1, p1)) (kt : x4 = 0 → Ev d mX12_laysGame (237, [some (vR (some (22, 0, a0))), some (vI x1), some (vI x2), some (vI x3), some (vI x4), some (vI x5), some (vI x6), some (vI x7), none, none], [vI x1, vR (some (0, q1, p1))], (I, S)) r) (kf : x4 ≠ 0 → Ev d mX12_laysGame (233, [some (vR (some (22, 0, a0))), some (vI x1), some (vI x2), some (vI x3), some (vI x4), some (vI x5), some (vI x6), some (vI x7), none, none], [vI x1, vR (some (0, q1, p1))], (I, S)) r) : Ev d mX12_laysGame (223, [some (vR (some (22, 0, a0))), some (vI x1), some (vI x2), some (vI x3), some (vI x4), some (vI x5), some (vI x6), some (vI x7), none, none], [], (I, S)) r :=
  s_aload_n rfl rfl rfl <|
  s_getR rfl rfl rfl hr1 <|
  s_iload_n rfl rfl rfl <|
  s_iload rfl rfl rfl <|
  s_if_eq 237 rfl rfl kt kf
theorem b_X12_laysGame_233 {d : Nat} {r : PO × PM} {I : Nat → Nat → Int} {S : PS} {a0 ns0 as0 : Nat} {x1 x2 x3 x4 x5 x6 x7 xs1 : Int} (k : Ev d mX12_laysGame (238, [some (vR (some (22, 0, a0))), some (vI x1), some (vI x2), some (vI x3), some (vI x4), some (vI x5), some (vI x6), some (vI x7), none, none], [vI 1, vI xs1, vR (some (0, ns0, as0))], (I, S)) r) : Ev d mX12_laysGame (233, [some (vR (some (22, 0, a0))), some (vI x1), some (vI x2), some (vI x3), some (vI x4), some (vI x5), some (vI x6), some (vI x7), none, none], [vI xs1, vR (some (0, ns0, as0))], (I, S)) r :=
  s_iconst rfl rfl <|
  s_goto 238 rfl rfl k
theorem b_X12_laysGame_237 {d : Nat} {r : PO × PM} {I : Nat → Nat → Int} {S : PS} {a0 ns0 as0 : Nat} {x1 x2 x3 x4 x5 x6 x7 xs1 : Int} (k : Ev d mX12_laysGame (238, [some (vR (some (22, 0, a0))), some (vI x1), some (vI x2), some (vI x3), some (vI x4), some (vI x5), some (vI x6), some (vI x7), none, none], [vI 2, vI xs1, vR (some (0, ns0, as0))], (I, S)) r) : Ev d mX12_laysGame (237, [some (vR (some (22, 0, a0))), some (vI x1), some (vI x2), some (vI x3), some (vI x4), some (vI x5), some (vI x6), some (vI x7), none, none], [vI xs1, vR (some (0, ns0, as0))], (I, S)) r :=
  s_iconst rfl rfl <|
  k
theorem b_X12_laysGame_238 {d : Nat} {r : PO × PM} {I : Nat → Nat → Int} {S : PS} {a0 ns0 as0 : Nat} {x1 x2 x3 x4 x5 x6 x7 xs1 xs2 : Int} (hi1 : 0 ≤ xs1 ∧ xs1 < (ns0 : Nat)) (k : Ev d mX12_laysGame (281, [some (vR (some (22, 0, a0))), some (vI x1), some (vI x2), some (vI x3), some (vI x4), some (vI x5), some (vI x6), some (vI x7), none, none], [], ((up2 I as0 (xs1.toNat) xs2), S)) r) : Ev d mX12_laysGame (238, [some (vR (some (22, 0, a0))), some (vI x1), some (vI x2), some (vI x3), some (vI x4), some (vI x5), some (vI x6), some (vI x7), none, none], [vI xs2, vI xs1, vR (some (0, ns0, as0))], (I, S)) r :=
  s_iast rfl hi1 <|
  s_goto 281 rfl rfl k
theorem b_X12_laysGame_242 {d : Nat} {r : PO × PM} {I : Nat → Nat → Int} {S : PS} {a0 : Nat} {x1 x2 x3 x4 x5 x6 x7 : Int} (kt : x3 = 0 → Ev d mX12_laysGame (265, [some (vR (some (22, 0, a0))), some (vI x1), some (vI x2), some (vI x3), some (vI x4), some (vI x5), some (vI x6), some (vI x7), none, none], [], (I, S)) r) (kf : x3 ≠ 0 → Ev d mX12_laysGame (246, [some (vR (some (22, 0, a0))), some (vI x1), some (vI x2), some (vI x3), some (vI x4), some (vI x5), some (vI x6), some (vI x7), none, none], [], (I, S)) r) : Ev d mX12_laysGame (242, [some (vR (some (22, 0, a0))), some (vI x1), some (vI x2), some (vI x3), some (vI x4), some (vI x5), some (vI x6), some (vI x7), none, none], [], (I, S)) r :=
  s_iload_n rfl rfl rfl <|
  s_if_eq 265 rfl rfl kt kf
theorem b_X12_laysGame_246 {d : Nat} {r : PO × PM} {I : Nat → Nat → Int} {S : PS} {a0 p1 q1 : Nat} {x1 x2 x3 x4 x5 x6 x7 : Int} (hr1 : S.1 a0 46 = some (0, q1, p1)) (kt : x4 = 0 → Ev d mX12_laysGame (260, [some (vR (some (22, 0, a0))), some (vI x1), some (vI x2), some (vI x3), some (vI x4), some (vI x5), some (vI x6), some (vI x7), none, none], [vI x1, vR (some (0, q1, p1))], (I, S)) r) (kf : x4 ≠ 0 → Ev d mX12_laysGame (256, [some (vR (some (22, 0, a0))), some (vI x1), some (vI x2), some (vI x3), some (vI x4), some (vI x5), some (vI x6), some (vI x7), none, none], [vI x1, vR (some (0, q1, p1))], (I, S)) r) : Ev d mX12_laysGame (246, [some (vR (some (22, 0, a0))), some (vI x1), some (vI x2), some (vI x3), some (vI x4), some (vI x5), some (vI x6), some (vI x7), none, none], [], (I, S)) r :=
  s_aload_n rfl rfl rfl <|
  s_getR rfl rfl rfl hr1 <|
  s_iload_n rfl rfl rfl <|
  s_iload rfl rfl rfl <|
  s_if_eq 260 rfl rfl kt kf
theorem b_X12_laysGame_256 {d : Nat} {r : PO × PM} {I : Nat → Nat → Int} {S : PS} {a0 ns0 as0 : Nat} {x1 x2 x3 x4 x5 x6 x7 xs1 : Int} (k : Ev d mX12_laysGame (261, [some (vR (some (22, 0, a0))), some (vI x1), some (vI x2), some (vI x3), some (vI x4), some (vI x5), some (vI x6), some (vI x7), none, none], [vI 1, vI xs1, vR (some (0, ns0, as0))], (I, S)) r) : Ev d mX12_laysGame (256, [some (vR (some (22, 0, a0))), some (vI x1), some (vI x2), some (vI x3), some (vI x4), some (vI x5), some (vI x6), some (vI x7), none, none], [vI xs1, vR (some (0, ns0, as0))], (I, S)) r :=
  s_iconst rfl rfl <|
  s_goto 261 rfl rfl k
theorem b_X12_laysGame_260 {d : Nat} {r : PO × PM} {I : Nat → Nat → Int} {S : PS} {a0 ns0 as0 : Nat} {x1 x2 x3 x4 x5 x6 x7 xs1 : Int} (k : Ev d mX12_laysGame (261, [some (vR (some (22, 0, a0))), some (vI x1), some (vI x2), some (vI x3), some (vI x4), some (vI x5), some (vI x6), some (vI x7), none, none], [vI 2, vI xs1, vR (some (0, ns0, as0))], (I, S)) r) : Ev d mX12_laysGame (260, [some (vR (some (22, 0, a0))), some (vI x1), some (vI x2), some (vI x3), some (vI x4), some (vI x5), some (vI x6), some (vI x7), none, none], [vI xs1, vR (some (0, ns0, as0))], (I, S)) r :=
  s_iconst rfl rfl <|
  k
theorem b_X12_laysGame_261 {d : Nat} {r : PO × PM} {I : Nat → Nat → Int} {S : PS} {a0 ns0 as0 : Nat} {x1 x2 x3 x4 x5 x6 x7 xs1 xs2 : Int} (hi1 : 0 ≤ xs1 ∧ xs1 < (ns0 : Nat)) (k : Ev d mX12_laysGame (281, [some (vR (some (22, 0, a0))), some (vI x1), some (vI x2), some (vI x3), some (vI x4), some (vI x5), some (vI x6), some (vI x7), none, none], [], ((up2 I as0 (xs1.toNat) xs2), S)) r) : Ev d mX12_laysGame (261, [some (vR (some (22, 0, a0))), some (vI x1), some (vI x2), some (vI x3), some (vI x4), some (vI x5), some (vI x6), some (vI x7), none, none], [vI xs2, vI xs1, vR (some (0, ns0, as0))], (I, S)) r :=
  s_iast rfl hi1 <|
  s_goto 281 rfl rfl k
theorem b_X12_laysGame_265 {d : Nat} {r : PO × PM} {I : Nat → Nat → Int} {S : PS} {a0 p1 q1 : Nat} {x1 x2 x3 x4 x5 x6 x7 : Int} (hr1 : S.1 a0 46 = some (0, q1, p1)) (kt : x5 = 0 → Ev d mX12_laysGame (279, [some (vR (some (22, 0, a0))), some (vI x1), some (vI x2), some (vI x3), some (vI x4), some (vI x5), some (vI x6), some (vI x7), none, none], [vI x1, vR (some (0, q1, p1))], (I, S)) r) (kf : x5 ≠ 0 → Ev d mX12_laysGame (275, [some (vR (some (22, 0, a0))), some (vI x1), some (vI x2), some (vI x3), some (vI x4), some (vI x5), some (vI x6), some (vI x7), none, none], [vI x1, vR (some (0, q1, p1))], (I, S)) r) : Ev d mX12_laysGame (265, [some (vR (some (22, 0, a0))), some (vI x1), some (vI x2), some (vI x3), some (vI x4), some (vI x5), some (vI x6), some (vI x7), none, none], [], (I, S)) r :=
  s_aload_n rfl rfl rfl <|
  s_getR rfl rfl rfl hr1 <|
  s_iload_n rfl rfl rfl <|
  s_iload rfl rfl rfl <|
  s_if_eq 279 rfl rfl kt kf
theorem b_X12_laysGame_275 {d : Nat} {r : PO × PM} {I : Nat → Nat → Int} {S : PS} {a0 ns0 as0 : Nat} {x1 x2 x3 x4 x5 x6 x7 xs1 : Int} (k : Ev d mX12_laysGame (280, [some (vR (some (22, 0, a0))), some (vI x1), some (vI x2), some (vI x3), some (vI x4), some (vI x5), some (vI x6), some (vI x7), none, none], [vI 2, vI xs1, vR (some (0, ns0, as0))], (I, S)) r) : Ev d mX12_laysGame (275, [some (vR (some (22, 0, a0))), some (vI x1), some (vI x2), some (vI x3), some (vI x4), some (vI x5), some (vI x6), some (vI x7), none, none], [vI xs1, vR (some (0, ns0, as0))], (I, S)) r :=
  s_iconst rfl rfl <|
  s_goto 280 rfl rfl k
theorem b_X12_laysGame_279 {d : Nat} {r : PO × PM} {I : Nat → Nat → Int} {S : PS} {a0 ns0 as0 : Nat} {x1 x2 x3 x4 x5 x6 x7 xs1 : Int} (k : Ev d mX12_laysGame (280, [some (vR (some (22, 0, a0))), some (vI x1), some (vI x2), some (vI x3), some (vI x4), some (vI x5), some (vI x6), some (vI x7), none, none], [vI 1, vI xs1, vR (some (0, ns0, as0))], (I, S)) r) : Ev d mX12_laysGame (279, [some (vR (some (22, 0, a0))), some (vI x1), some (vI x2), some (vI x3), some (vI x4), some (vI x5), some (vI x6), some (vI x7), none, none], [vI xs1, vR (some (0, ns0, as0))], (I, S)) r :=
  s_iconst rfl rfl <|
  k
theorem b_X12_laysGame_280 {d : Nat} {r : PO × PM} {I : Nat → Nat → Int} {S : PS} {a0 ns0 as0 : Nat} {x1 x2 x3 x4 x5 x6 x7 xs1 xs2 : Int} (hi1 : 0 ≤ xs1 ∧ xs1 < (ns0 : Nat)) (k : Ev d mX12_laysGame (281, [some (vR (some (22, 0, a0))), some (vI x1), some (vI x2), some (vI x3), some (vI x4), some (vI x5), some (vI x6), some (vI x7), none, none], [], ((up2 I as0 (xs1.toNat) xs2), S)) r) : Ev d mX12_laysGame (280, [some (vR (some (22, 0, a0))), some (vI x1), some (vI x2), some (vI x3), some (vI x4), some (vI x5), some (vI x6), some (vI x7), none, none], [vI xs2, vI xs1, vR (some (0, ns0, as0))], (I, S)) r :=
  s_iast rfl hi1 <|
  k
theorem b_X12_laysGame_281 {d : Nat} {r : PO × PM} {I : Nat → Nat → Int} {S : PS} {a0 : Nat} {x1 x2 x3 x4 x5 x6 x7 : Int} (ho1 : -2147483648 ≤ x1 - 1 ∧ x1 - 1 ≤ 2147483647) (k : Ev d mX12_laysGame (11, [some (vR (some (22, 0, a0))), some (vI (x1 - 1)), none, none, none, none, none, none, none, none], [], (I, S)) r) : Ev d mX12_laysGame (281, [some (vR (some (22, 0, a0))), some (vI x1), some (vI x2), some (vI x3), some (vI x4), some (vI x5), some (vI x6), some (vI x7), none, none], [], (I, S)) r :=
  s_iincpn [some (vR (some (22, 0, a0))), some (vI (x1 - 1)), some (vI x2), some (vI x3), some (vI x4), some (vI x5), some (vI x6), some (vI x7), none, none] rfl rfl ho1 rfl <|
  s_goto 11 rfl rfl (ev_forget [false, false, true, true, true, true, true, true, false, false] rfl k)
theorem b_X12_laysGame_287 {d : Nat} {I : Nat → Nat → Int} {S : PS} {a0 : Nat} {x1 : Int} : Ev d mX12_laysGame (287, [some (vR (some (22, 0, a0))), some (vI x1), none, none, none, none, none, none, none, none], [], (I, S)) (.inl none, (I, S)) :=
  s_vret rfl rfl
theorem b_X12_play_0 {d : Nat} {r : PO × PM} {I : Nat → Nat → Int} {S : PS} {a0 : Nat} {x1 z : Int} {I1 : Nat → Nat → Int} {S1 : PS} (c : Ca d mX12_isWhat [vR (some (22, 0, a0)), vI x1, vI 1] ((up2 I a0 0 0), S) (.inl (some (vI z))) (I1, S1)) (k : Ev (d + 1) mX12_play (11, [some (vR (some (22, 0, a0))), some (vI x1), none, none], [vI z], (I1, S1)) r) : Ev (d + 1) mX12_play (0, [some (vR (some (22, 0, a0))), some (vI x1), none, none], [], (I, S)) r :=
  s_aload_n rfl rfl rfl <|
  s_iconst rfl rfl <|
  s_putI rfl rfl rfl <|
  s_aload_n rfl rfl rfl <|
  s_iload_n rfl rfl rfl <|
  s_iconst rfl rfl <|
  s_cvI rfl rfl rfl rfl rfl c k
theorem b_X12_play_11 {d : Nat} {r : PO × PM} {I : Nat → Nat → Int} {S : PS} {a0 : Nat} {x1 xs0 : Int} (kt : xs0 ≠ 0 → Ev d mX12_play (16, [some (vR (some (22, 0, a0))), some (vI x1), none, none], [], (I, S)) r) (kf : xs0 = 0 → Ev d mX12_play (14, [some (vR (some (22, 0, a0))), some (vI x1), none, none], [], (I, S)) r) : Ev d mX12_play (11, [some (vR (some (22, 0, a0))), some (vI x1), none, none], [vI xs0], (I, S)) r :=
  s_if_ne 16 rfl rfl kt kf
theorem b_X12_play_14 {d : Nat} {I : Nat → Nat → Int} {S : PS} {a0 : Nat} {x1 : Int} : Ev d mX12_play (14, [some (vR (some (22, 0, a0))), some (vI x1), none, none], [], (I, S)) (.inl (some (vI 0)), (I, S)) :=
  s_iconst rfl rfl <|
  s_ret rfl rfl
theorem b_X12_play_16 {d : Nat} {r : PO × PM} {I : Nat → Nat → Int} {S : PS} {a0 : Nat} {x1 : Int} {I1 : Nat → Nat → Int} {S1 : PS} (c : Ca d mX12_laysOpen [vR (some (22, 0, a0))] (I, S) (.inl none) (I1, S1)) (k : Ev (d + 1) mX12_play (20, [some (vR (some (22, 0, a0))), some (vI x1), none, none], [], (I1, S1)) r) : Ev (d + 1) mX12_play (16, [some (vR (some (22, 0, a0))), some (vI x1), none, none], [], (I, S)) r :=
  s_aload_n rfl rfl rfl <|
  s_cvV rfl rfl rfl rfl rfl c k
theorem b_X12_play_20 {d : Nat} {r : PO × PM} {I : Nat → Nat → Int} {S : PS} {a0 : Nat} {x1 : Int} (kt : I a0 44 ≤ 4 → Ev d mX12_play (30, [some (vR (some (22, 0, a0))), some (vI x1), none, none], [], (I, S)) r) (kf : 4 < I a0 44 → Ev d mX12_play (28, [some (vR (some (22, 0, a0))), some (vI x1), none, none], [], (I, S)) r) : Ev d mX12_play (20, [some (vR (some (22, 0, a0))), some (vI x1), none, none], [], (I, S)) r :=
  s_aload_n rfl rfl rfl <|
  s_getI rfl rfl rfl <|
  s_iconst rfl rfl <|
  s_icmp_le 30 rfl rfl kt kf
theorem b_X12_play_28 {d : Nat} {I : Nat → Nat → Int} {S : PS} {a0 : Nat} {x1 : Int} : Ev d mX12_play (28, [some (vR (some (22, 0, a0))), some (vI x1), none, none], [], (I, S)) (.inl (some (vI (-1))), (I, S)) :=
  s_iconst rfl rfl <|
  s_ret rfl rfl
theorem b_X12_play_30 {d : Nat} {r : PO × PM} {I : Nat → Nat → Int} {S : PS} {a0 : Nat} {x1 : Int} {I1 : Nat → Nat → Int} {S1 : PS} (c : Ca d mX12_laysGame [vR (some (22, 0, a0))] (I, S) (.inl none) (I1, S1)) (k : Ev (d + 1) mX12_play (34, [some (vR (some (22, 0, a0))), some (vI x1), none, none], [], (I1, S1)) r) : Ev (d + 1) mX12_play (30, [some (vR (some (22, 0, a0))), some (vI x1), none, none], [], (I, S)) r :=
  s_aload_n rfl rfl rfl <|
  s_cvV rfl rfl rfl rfl rfl c k
theorem b_X12_play_34 {d : Nat} {r : PO × PM} {I : Nat → Nat → Int} {S : PS} {a0 : Nat} {x1 : Int} (kt : x1 ≠ 0 → Ev d mX12_play (45, [some (vR (some (22, 0, a0))), some (vI x1), none, none], [], (I, S)) r) (kf : x1 = 0 → Ev d mX12_play (38, [some (vR (some (22, 0, a0))), some (vI x1), none, none], [], (I, S)) r) : Ev d mX12_play (34, [some (vR (some (22, 0, a0))), some (vI x1), none, none], [], (I, S)) r :=
  s_iload_n rfl rfl rfl <|
  s_if_ne 45 rfl rfl kt kf
theorem b_X12_play_38 {d : Nat} {I : Nat → Nat → Int} {S : PS} {a0 p1 q1 : Nat} {x1 : Int} (hr1 : S.1 a0 46 = some (0, q1, p1)) (hi2 : 0 < q1) : Ev d mX12_play (38, [some (vR (some (22, 0, a0))), some (vI x1), none, none], [], (I, S)) (.inl (some (vI (I p1 0))), (I, S)) :=
  s_aload_n rfl rfl rfl <|
  s_getR rfl rfl rfl hr1 <|
  s_iconst rfl rfl <|
  s_iald rfl rfl (p_lit (k := 0) hi2) <|
  s_ret rfl rfl
theorem b_X12_play_45 {d : Nat} {r : PO × PM} {I : Nat → Nat → Int} {S : PS} {a0 : Nat} {x1 : Int} {I1 : Nat → Nat → Int} {S1 : PS} (c : Ca d mX12_tries [vR (some (22, 0, a0))] (I, S) (.inl none) (I1, S1)) (k : Ev (d + 1) mX12_play (49, [some (vR (some (22, 0, a0))), some (vI x1), none, none], [], (I1, S1)) r) : Ev (d + 1) mX12_play (45, [some (vR (some (22, 0, a0))), some (vI x1), none, none], [], (I, S)) r :=
  s_aload_n rfl rfl rfl <|
  s_cvV rfl rfl rfl rfl rfl c k
theorem b_X12_play_49 {d : Nat} {r : PO × PM} {I : Nat → Nat → Int} {S : PS} {a0 : Nat} {x1 : Int} (k : Ev d mX12_play (51, [some (vR (some (22, 0, a0))), some (vI x1), some (vI 0), none], [], (I, S)) r) : Ev d mX12_play (49, [some (vR (some (22, 0, a0))), some (vI x1), none, none], [], (I, S)) r :=
  s_iconst rfl rfl <|
  s_istore_n [some (vR (some (22, 0, a0))), some (vI x1), some (vI 0), none] rfl rfl <|
  k
theorem b_X12_play_51 {d : Nat} {r : PO × PM} {I : Nat → Nat → Int} {S : PS} {a0 : Nat} {x1 x2 : Int} (kt : I a0 44 ≤ x2 → Ev d mX12_play (134, [some (vR (some (22, 0, a0))), some (vI x1), some (vI x2), none], [], (I, S)) r) (kf : x2 < I a0 44 → Ev d mX12_play (59, [some (vR (some (22, 0, a0))), some (vI x1), some (vI x2), none], [], (I, S)) r) : Ev d mX12_play (51, [some (vR (some (22, 0, a0))), some (vI x1), some (vI x2), none], [], (I, S)) r :=
  s_iload_n rfl rfl rfl <|
  s_aload_n rfl rfl rfl <|
  s_getI rfl rfl rfl <|
  s_icmp_ge 134 rfl rfl kt kf
theorem b_X12_play_59 {d : Nat} {r : PO × PM} {I : Nat → Nat → Int} {S : PS} {a0 p1 q1 : Nat} {x1 x2 : Int} (hr1 : S.1 a0 46 = some (0, q1, p1)) (hi2 : 0 < q1) (kt : I p1 0 ≠ 1 → Ev d mX12_play (134, [some (vR (some (22, 0, a0))), some (vI x1), some (vI x2), none], [], (I, S)) r) (kf : I p1 0 = 1 → Ev d mX12_play (69, [some (vR (some (22, 0, a0))), some (vI x1), some (vI x2), none], [], (I, S)) r) : Ev d mX12_play (59, [some (vR (some (22, 0, a0))), some (vI x1), some (vI x2), none], [], (I, S)) r :=
  s_aload_n rfl rfl rfl <|
  s_getR rfl rfl rfl hr1 <|
  s_iconst rfl rfl <|
  s_iald rfl rfl (p_lit (k := 0) hi2) <|
  s_iconst rfl rfl <|
  s_icmp_ne 134 rfl rfl kt kf
theorem b_X12_play_69 {d : Nat} {r : PO × PM} {I : Nat → Nat → Int} {S : PS} {a0 : Nat} {x1 x2 : Int} (k : Ev d mX12_play (71, [some (vR (some (22, 0, a0))), some (vI x1), some (vI x2), some (vI 0)], [], (I, S)) r) : Ev d mX12_play (69, [some (vR (some (22, 0, a0))), some (vI x1), some (vI x2), none], [], (I, S)) r :=
  s_iconst rfl rfl <|
  s_istore_n [some (vR (some (22, 0, a0))), some (vI x1), some (vI x2), some (vI 0)] rfl rfl <|
  k
theorem b_X12_play_71 {d : Nat} {r : PO × PM} {I : Nat → Nat → Int} {S : PS} {a0 : Nat} {x1 x2 x3 : Int} (kt : 4 ≤ x3 → Ev d mX12_play (128, [some (vR (some (22, 0, a0))), some (vI x1), some (vI x2), some (vI x3)], [], (I, S)) r) (kf : x3 < 4 → Ev d mX12_play (76, [some (vR (some (22, 0, a0))), some (vI x1), some (vI x2), some (vI x3)], [], (I, S)) r) : Ev d mX12_play (71, [some (vR (some (22, 0, a0))), some (vI x1), some (vI x2), some (vI x3)], [], (I, S)) r :=
  s_iload_n rfl rfl rfl <|
  s_iconst rfl rfl <|
  s_icmp_ge 128 rfl rfl kt kf
theorem b_X12_play_76 {d : Nat} {r : PO × PM} {I : Nat → Nat → Int} {S : PS} {a0 p1 q1 : Nat} {x1 x2 x3 z : Int} {I1 : Nat → Nat → Int} {S1 : PS} (hr1 : S.1 a0 42 = some (0, q1, p1)) (hi2 : 0 ≤ x2 ∧ x2 < (q1 : Nat)) (c : Ca d mX12_canPaint [vR (some (22, 0, a0)), vI 18, vI (I p1 x2.toNat), vI x3] (I, S) (.inl (some (vI z))) (I1, S1)) (k : Ev (d + 1) mX12_play (89, [some (vR (some (22, 0, a0))), some (vI x1), some (vI x2), some (vI x3)], [vI z], (I1, S1)) r) : Ev (d + 1) mX12_play (76, [some (vR (some (22, 0, a0))), some (vI x1), some (vI x2), some (vI x3)], [], (I, S)) r :=
  s_aload_n rfl rfl rfl <|
  s_bipush rfl rfl <|
  s_aload_n rfl rfl rfl <|
  s_getR rfl rfl rfl hr1 <|
  s_iload_n rfl rfl rfl <|
  s_iald rfl rfl hi2 <|
  s_iload_n rfl rfl rfl <|
  s_cvI rfl rfl rfl rfl rfl c k
theorem b_X12_play_89 {d : Nat} {r : PO × PM} {I : Nat → Nat → Int} {S : PS} {a0 : Nat} {x1 x2 x3 xs0 : Int} (kt : xs0 = 0 → Ev d mX12_play (122, [some (vR (some (22, 0, a0))), some (vI x1), some (vI x2), some (vI x3)], [], (I, S)) r) (kf : xs0 ≠ 0 → Ev d mX12_play (92, [some (vR (some (22, 0, a0))), some (vI x1), some (vI x2), some (vI x3)], [], (I, S)) r) : Ev d mX12_play (89, [some (vR (some (22, 0, a0))), some (vI x1), some (vI x2), some (vI x3)], [vI xs0], (I, S)) r :=
  s_if_eq 122 rfl rfl kt kf
theorem b_X12_play_92 {d : Nat} {r : PO × PM} {I : Nat → Nat → Int} {S : PS} {a0 p1 q1 : Nat} {x1 x2 x3 z : Int} {I1 : Nat → Nat → Int} {S1 : PS} (hr1 : S.1 a0 46 = some (0, q1, p1)) (ho2 : -2147483648 ≤ x3 + 1 ∧ x3 + 1 ≤ 2147483647) (c : Ca d mX12_step5 [vR (some (22, 0, a0)), vI x2] (I, S) (.inl (some (vI z))) (I1, S1)) (k : Ev (d + 1) mX12_play (104, [some (vR (some (22, 0, a0))), some (vI x1), some (vI x2), some (vI x3)], [vI z, vI (x3 + 1), vR (some (0, q1, p1))], (I1, S1)) r) : Ev (d + 1) mX12_play (92, [some (vR (some (22, 0, a0))), some (vI x1), some (vI x2), some (vI x3)], [], (I, S)) r :=
  s_aload_n rfl rfl rfl <|
  s_getR rfl rfl rfl hr1 <|
  s_iload_n rfl rfl rfl <|
  s_iconst rfl rfl <|
  s_iaddp rfl ho2 <|
  s_aload_n rfl rfl rfl <|
  s_iload_n rfl rfl rfl <|
  s_cvI rfl rfl rfl rfl rfl c k
theorem b_X12_play_104 {d : Nat} {r : PO × PM} {I : Nat → Nat → Int} {S : PS} {a0 ns0 as0 : Nat} {x1 x2 x3 xs1 xs2 : Int} (ho1 : -2147483648 ≤ xs1 * xs2 ∧ xs1 * xs2 ≤ 2147483647) (hi2 : 0 ≤ xs1 * xs2 ∧ xs1 * xs2 < (ns0 : Nat)) (kt : I as0 (xs1 * xs2).toNat ≠ 1 → Ev d mX12_play (122, [some (vR (some (22, 0, a0))), some (vI x1), some (vI x2), some (vI x3)], [], (I, S)) r) (kf : I as0 (xs1 * xs2).toNat = 1 → Ev d mX12_play (110, [some (vR (some (22, 0, a0))), some (vI x1), some (vI x2), some (vI x3)], [], (I, S)) r) : Ev d mX12_play (104, [some (vR (some (22, 0, a0))), some (vI x1), some (vI x2), some (vI x3)], [vI xs2, vI xs1, vR (some (0, ns0, as0))], (I, S)) r :=
  s_imulp rfl ho1 <|
  s_iald rfl rfl hi2 <|
  s_iconst rfl rfl <|
  s_icmp_ne 122 rfl rfl kt kf
theorem b_X12_play_110 {d : Nat} {I : Nat → Nat → Int} {S : PS} {a0 p1 q1 : Nat} {x1 x2 x3 : Int} (hr1 : S.1 a0 42 = some (0, q1, p1)) (hi2 : 0 ≤ x2 ∧ x2 < (q1 : Nat)) (ho3 : -2147483648 ≤ 10 * (I p1 x2.toNat) ∧ 10 * (I p1 x2.toNat) ≤ 2147483647) (ho4 : -2147483648 ≤ (10 * (I p1 x2.toNat)) + x3 ∧ (10 * (I p1 x2.toNat)) + x3 ≤ 2147483647) : Ev d mX12_play (110, [some (vR (some (22, 0, a0))), some (vI x1), some (vI x2), some (vI x3)], [], (I, S)) (.inl (some (vI ((10 * (I p1 x2.toNat)) + x3))), (I, S)) :=
  s_bipush rfl rfl <|
  s_aload_n rfl rfl rfl <|
  s_getR rfl rfl rfl hr1 <|
  s_iload_n rfl rfl rfl <|
  s_iald rfl rfl hi2 <|
  s_imulp rfl ho3 <|
  s_iload_n rfl rfl rfl <|
  s_iaddp rfl ho4 <|
  s_ret rfl rfl
theorem b_X12_play_122 {d : Nat} {r : PO × PM} {I : Nat → Nat → Int} {S : PS} {a0 : Nat} {x1 x2 x3 : Int} (ho1 : -2147483648 ≤ x3 + 1 ∧ x3 + 1 ≤ 2147483647) (k : Ev d mX12_play (71, [some (vR (some (22, 0, a0))), some (vI x1), some (vI x2), some (vI (x3 + 1))], [], (I, S)) r) : Ev d mX12_play (122, [some (vR (some (22, 0, a0))), some (vI x1), some (vI x2), some (vI x3)], [], (I, S)) r :=
  s_iincp [some (vR (some (22, 0, a0))), some (vI x1), some (vI x2), some (vI (x3 + 1))] rfl rfl ho1 rfl <|
  s_goto 71 rfl rfl k
theorem b_X12_play_128 {d : Nat} {r : PO × PM} {I : Nat → Nat → Int} {S : PS} {a0 : Nat} {x1 x2 x3 : Int} (ho1 : -2147483648 ≤ x2 + 1 ∧ x2 + 1 ≤ 2147483647) (k : Ev d mX12_play (51, [some (vR (some (22, 0, a0))), some (vI x1), some (vI (x2 + 1)), none], [], (I, S)) r) : Ev d mX12_play (128, [some (vR (some (22, 0, a0))), some (vI x1), some (vI x2), some (vI x3)], [], (I, S)) r :=
  s_iincp [some (vR (some (22, 0, a0))), some (vI x1), some (vI (x2 + 1)), some (vI x3)] rfl rfl ho1 rfl <|
  s_goto 51 rfl rfl (ev_forget [false, false, false, true] rfl k)
theorem b_X12_play_134 {d : Nat} {I : Nat → Nat → Int} {S : PS} {a0 : Nat} {x1 x2 : Int} : Ev d mX12_play (134, [some (vR (some (22, 0, a0))), some (vI x1), some (vI x2), none], [], (I, S)) (.inl (some (vI (-1))), (I, S)) :=
  s_iconst rfl rfl <|
  s_ret rfl rfl
theorem b_X12_laysSheet_0 {d : Nat} {r : PO × PM} {I : Nat → Nat → Int} {S : PS} {a0 : Nat} (kt : I a0 50 ≤ 0 → Ev d mX12_laysSheet (46, [some (vR (some (22, 0, a0))), none], [], (I, S)) r) (kf : 0 < I a0 50 → Ev d mX12_laysSheet (7, [some (vR (some (22, 0, a0))), none], [], (I, S)) r) : Ev d mX12_laysSheet (0, [some (vR (some (22, 0, a0))), none], [], (I, S)) r :=
  s_aload_n rfl rfl rfl <|
  s_getI rfl rfl rfl <|
  s_if_le 46 rfl rfl kt kf
theorem b_X12_laysSheet_7 {d : Nat} {r : PO × PM} {I : Nat → Nat → Int} {S : PS} {a0 : Nat} (k : Ev d mX12_laysSheet (9, [some (vR (some (22, 0, a0))), some (vI 0)], [], (I, S)) r) : Ev d mX12_laysSheet (7, [some (vR (some (22, 0, a0))), none], [], (I, S)) r :=
  s_iconst rfl rfl <|
  s_istore_n [some (vR (some (22, 0, a0))), some (vI 0)] rfl rfl <|
  k
theorem b_X12_laysSheet_9 {d : Nat} {r : PO × PM} {I : Nat → Nat → Int} {S : PS} {a0 : Nat} {x1 : Int} (kt : 12 ≤ x1 → Ev d mX12_laysSheet (46, [some (vR (some (22, 0, a0))), none], [], (I, S)) r) (kf : x1 < 12 → Ev d mX12_laysSheet (15, [some (vR (some (22, 0, a0))), some (vI x1)], [], (I, S)) r) : Ev d mX12_laysSheet (9, [some (vR (some (22, 0, a0))), some (vI x1)], [], (I, S)) r :=
  s_iload_n rfl rfl rfl <|
  s_bipush rfl rfl <|
  s_icmp_ge 46 rfl rfl (fun c => ev_forget [false, true] rfl <| kt c) kf
theorem b_X12_laysSheet_15 {d : Nat} {r : PO × PM} {I : Nat → Nat → Int} {S : PS} {a0 p1 q1 p5 q5 : Nat} {x1 : Int} (hr1 : S.1 a0 52 = some (0, q1, p1)) (ho2 : -2147483648 ≤ I a0 50 - 1 ∧ I a0 50 - 1 ≤ 2147483647) (ho3 : -2147483648 ≤ 12 * (I a0 50 - 1) ∧ 12 * (I a0 50 - 1) ≤ 2147483647) (ho4 : -2147483648 ≤ (12 * (I a0 50 - 1)) + x1 ∧ (12 * (I a0 50 - 1)) + x1 ≤ 2147483647) (hr5 : S.1 a0 39 = some (0, q5, p5)) (ho6 : -2147483648 ≤ 18 + x1 ∧ 18 + x1 ≤ 2147483647) (hi7 : 0 ≤ 18 + x1 ∧ 18 + x1 < (q5 : Nat)) (hi8 : 0 ≤ (12 * (I a0 50 - 1)) + x1 ∧ (12 * (I a0 50 - 1)) + x1 < (q1 : Nat)) (ho9 : -2147483648 ≤ x1 + 1 ∧ x1 + 1 ≤ 2147483647) (k : Ev d mX12_laysSheet (9, [some (vR (some (22, 0, a0))), some (vI (x1 + 1))], [], ((up2 I p1 (((12 * (I a0 50 - 1)) + x1).toNat) (I p5 (18 + x1).toNat)), S)) r) : Ev d mX12_laysSheet (15, [some (vR (some (22, 0, a0))), some (vI x1)], [], (I, S)) r :=
  s_aload_n rfl rfl rfl <|
  s_getR rfl rfl rfl hr1 <|
  s_bipush rfl rfl <|
  s_aload_n rfl rfl rfl <|
  s_getI rfl rfl rfl <|
  s_iconst rfl rfl <|
  s_isubp rfl ho2 <|
  s_imulp rfl ho3 <|
  s_iload_n rfl rfl rfl <|
  s_iaddp rfl ho4 <|
  s_aload_n rfl rfl rfl <|
  s_getR rfl rfl rfl hr5 <|
  s_bipush rfl rfl <|
  s_iload_n rfl rfl rfl <|
  s_iaddp rfl ho6 <|
  s_iald rfl rfl hi7 <|
  s_iast rfl hi8 <|
  s_iincp [some (vR (some (22, 0, a0))), some (vI (x1 + 1))] rfl rfl ho9 rfl <|
  s_goto 9 rfl rfl k
theorem b_X12_laysSheet_46 {d : Nat} {r : PO × PM} {I : Nat → Nat → Int} {S : PS} {a0 p1 q1 p5 q5 : Nat} (hr1 : S.1 a0 53 = some (0, q1, p1)) (hi2 : 0 ≤ I a0 50 ∧ I a0 50 < (q1 : Nat)) (ho3 : -2147483648 ≤ ((up2 I p1 ((I a0 50).toNat) (I a0 48)) a0 48) + 1 ∧ ((up2 I p1 ((I a0 50).toNat) (I a0 48)) a0 48) + 1 ≤ 2147483647) (ho4 : -2147483648 ≤ ((up2 (up2 I p1 ((I a0 50).toNat) (I a0 48)) a0 48 (((up2 I p1 ((I a0 50).toNat) (I a0 48)) a0 48) + 1)) a0 50) + 1 ∧ ((up2 (up2 I p1 ((I a0 50).toNat) (I a0 48)) a0 48 (((up2 I p1 ((I a0 50).toNat) (I a0 48)) a0 48) + 1)) a0 50) + 1 ≤ 2147483647) (hr5 : S.1 a0 54 = some (0, q5, p5)) (hi6 : 2 < q5) (kt : (up2 (up2 (up2 I p1 ((I a0 50).toNat) (I a0 48)) a0 48 (((up2 I p1 ((I a0 50).toNat) (I a0 48)) a0 48) + 1)) a0 50 (((up2 (up2 I p1 ((I a0 50).toNat) (I a0 48)) a0 48 (((up2 I p1 ((I a0 50).toNat) (I a0 48)) a0 48) + 1)) a0 50) + 1)) a0 50 ≤ (up2 (up2 (up2 I p1 ((I a0 50).toNat) (I a0 48)) a0 48 (((up2 I p1 ((I a0 50).toNat) (I a0 48)) a0 48) + 1)) a0 50 (((up2 (up2 I p1 ((I a0 50).toNat) (I a0 48)) a0 48 (((up2 I p1 ((I a0 50).toNat) (I a0 48)) a0 48) + 1)) a0 50) + 1)) p5 2 → Ev d mX12_laysSheet (104, [some (vR (some (22, 0, a0))), none], [vI 2, vR (some (0, q5, p5))], ((up2 (up2 (up2 I p1 ((I a0 50).toNat) (I a0 48)) a0 48 (((up2 I p1 ((I a0 50).toNat) (I a0 48)) a0 48) + 1)) a0 50 (((up2 (up2 I p1 ((I a0 50).toNat) (I a0 48)) a0 48 (((up2 I p1 ((I a0 50).toNat) (I a0 48)) a0 48) + 1)) a0 50) + 1)), S)) r) (kf : (up2 (up2 (up2 I p1 ((I a0 50).toNat) (I a0 48)) a0 48 (((up2 I p1 ((I a0 50).toNat) (I a0 48)) a0 48) + 1)) a0 50 (((up2 (up2 I p1 ((I a0 50).toNat) (I a0 48)) a0 48 (((up2 I p1 ((I a0 50).toNat) (I a0 48)) a0 48) + 1)) a0 50) + 1)) p5 2 < (up2 (up2 (up2 I p1 ((I a0 50).toNat) (I a0 48)) a0 48 (((up2 I p1 ((I a0 50).toNat) (I a0 48)) a0 48) + 1)) a0 50 (((up2 (up2 I p1 ((I a0 50).toNat) (I a0 48)) a0 48 (((up2 I p1 ((I a0 50).toNat) (I a0 48)) a0 48) + 1)) a0 50) + 1)) a0 50 → Ev d mX12_laysSheet (97, [some (vR (some (22, 0, a0))), none], [vI 2, vR (some (0, q5, p5))], ((up2 (up2 (up2 I p1 ((I a0 50).toNat) (I a0 48)) a0 48 (((up2 I p1 ((I a0 50).toNat) (I a0 48)) a0 48) + 1)) a0 50 (((up2 (up2 I p1 ((I a0 50).toNat) (I a0 48)) a0 48 (((up2 I p1 ((I a0 50).toNat) (I a0 48)) a0 48) + 1)) a0 50) + 1)), S)) r) : Ev d mX12_laysSheet (46, [some (vR (some (22, 0, a0))), none], [], (I, S)) r :=
  s_aload_n rfl rfl rfl <|
  s_getR rfl rfl rfl hr1 <|
  s_aload_n rfl rfl rfl <|
  s_getI rfl rfl rfl <|
  s_aload_n rfl rfl rfl <|
  s_getI rfl rfl rfl <|
  s_iast rfl hi2 <|
  s_aload_n rfl rfl rfl <|
  s_dup rfl rfl <|
  s_getI rfl rfl rfl <|
  s_iconst rfl rfl <|
  s_iaddp rfl ho3 <|
  s_putI rfl rfl rfl <|
  s_aload_n rfl rfl rfl <|
  s_dup rfl rfl <|
  s_getI rfl rfl rfl <|
  s_iconst rfl rfl <|
  s_iaddp rfl ho4 <|
  s_putI rfl rfl rfl <|
  s_aload_n rfl rfl rfl <|
  s_getR rfl rfl rfl hr5 <|
  s_iconst rfl rfl <|
  s_aload_n rfl rfl rfl <|
  s_getI rfl rfl rfl <|
  s_aload_n rfl rfl rfl <|
  s_getR rfl rfl rfl hr5 <|
  s_iconst rfl rfl <|
  s_iald rfl rfl (p_lit (k := 2) hi6) <|
  s_icmp_le 104 rfl rfl kt kf
theorem b_X12_laysSheet_97 {d : Nat} {r : PO × PM} {I : Nat → Nat → Int} {S : PS} {a0 ns0 as0 : Nat} {xs1 : Int} (k : Ev d mX12_laysSheet (110, [some (vR (some (22, 0, a0))), none], [vI (I a0 50), vI xs1, vR (some (0, ns0, as0))], (I, S)) r) : Ev d mX12_laysSheet (97, [some (vR (some (22, 0, a0))), none], [vI xs1, vR (some (0, ns0, as0))], (I, S)) r :=
  s_aload_n rfl rfl rfl <|
  s_getI rfl rfl rfl <|
  s_goto 110 rfl rfl k
theorem b_X12_laysSheet_104 {d : Nat} {r : PO × PM} {I : Nat → Nat → Int} {S : PS} {a0 ns0 as0 p1 q1 : Nat} {xs1 : Int} (hr1 : S.1 a0 54 = some (0, q1, p1)) (hi2 : 2 < q1) (k : Ev d mX12_laysSheet (110, [some (vR (some (22, 0, a0))), none], [vI (I p1 2), vI xs1, vR (some (0, ns0, as0))], (I, S)) r) : Ev d mX12_laysSheet (104, [some (vR (some (22, 0, a0))), none], [vI xs1, vR (some (0, ns0, as0))], (I, S)) r :=
  s_aload_n rfl rfl rfl <|
  s_getR rfl rfl rfl hr1 <|
  s_iconst rfl rfl <|
  s_iald rfl rfl (p_lit (k := 2) hi2) <|
  k
theorem b_X12_laysSheet_110 {d : Nat} {I : Nat → Nat → Int} {S : PS} {a0 ns0 as0 : Nat} {xs1 xs2 : Int} (hi1 : 0 ≤ xs1 ∧ xs1 < (ns0 : Nat)) : Ev d mX12_laysSheet (110, [some (vR (some (22, 0, a0))), none], [vI xs2, vI xs1, vR (some (0, ns0, as0))], (I, S)) (.inl none, ((up2 I as0 (xs1.toNat) xs2), S)) :=
  s_iast rfl hi1 <|
  s_vret rfl rfl
theorem b_X12_takesOff_0 {d : Nat} {r : PO × PM} {I : Nat → Nat → Int} {S : PS} {a0 p2 q2 : Nat} (ho1 : -2147483648 ≤ I a0 50 - 1 ∧ I a0 50 - 1 ≤ 2147483647) (hr2 : S.1 a0 53 = some (0, q2, p2)) (hi3 : 0 ≤ (up2 I a0 50 (I a0 50 - 1)) a0 50 ∧ (up2 I a0 50 (I a0 50 - 1)) a0 50 < (q2 : Nat)) (kt : (up2 (up2 I a0 50 (I a0 50 - 1)) a0 49 ((up2 I a0 50 (I a0 50 - 1)) p2 ((up2 I a0 50 (I a0 50 - 1)) a0 50).toNat)) a0 50 ≤ 0 → Ev d mX12_takesOff (69, [some (vR (some (22, 0, a0))), none], [], ((up2 (up2 I a0 50 (I a0 50 - 1)) a0 49 ((up2 I a0 50 (I a0 50 - 1)) p2 ((up2 I a0 50 (I a0 50 - 1)) a0 50).toNat)), S)) r) (kf : 0 < (up2 (up2 I a0 50 (I a0 50 - 1)) a0 49 ((up2 I a0 50 (I a0 50 - 1)) p2 ((up2 I a0 50 (I a0 50 - 1)) a0 50).toNat)) a0 50 → Ev d mX12_takesOff (30, [some (vR (some (22, 0, a0))), none], [], ((up2 (up2 I a0 50 (I a0 50 - 1)) a0 49 ((up2 I a0 50 (I a0 50 - 1)) p2 ((up2 I a0 50 (I a0 50 - 1)) a0 50).toNat)), S)) r) : Ev d mX12_takesOff (0, [some (vR (some (22, 0, a0))), none], [], (I, S)) r :=
  s_aload_n rfl rfl rfl <|
  s_dup rfl rfl <|
  s_getI rfl rfl rfl <|
  s_iconst rfl rfl <|
  s_isubp rfl ho1 <|
  s_putI rfl rfl rfl <|
  s_aload_n rfl rfl rfl <|
  s_aload_n rfl rfl rfl <|
  s_getR rfl rfl rfl hr2 <|
  s_aload_n rfl rfl rfl <|
  s_getI rfl rfl rfl <|
  s_iald rfl rfl hi3 <|
  s_putI rfl rfl rfl <|
  s_aload_n rfl rfl rfl <|
  s_getI rfl rfl rfl <|
  s_if_le 69 rfl rfl kt kf
theorem b_X12_takesOff_30 {d : Nat} {r : PO × PM} {I : Nat → Nat → Int} {S : PS} {a0 : Nat} (k : Ev d mX12_takesOff (32, [some (vR (some (22, 0, a0))), some (vI 0)], [], (I, S)) r) : Ev d mX12_takesOff (30, [some (vR (some (22, 0, a0))), none], [], (I, S)) r :=
  s_iconst rfl rfl <|
  s_istore_n [some (vR (some (22, 0, a0))), some (vI 0)] rfl rfl <|
  k
theorem b_X12_takesOff_32 {d : Nat} {r : PO × PM} {I : Nat → Nat → Int} {S : PS} {a0 : Nat} {x1 : Int} (kt : 12 ≤ x1 → Ev d mX12_takesOff (69, [some (vR (some (22, 0, a0))), none], [], (I, S)) r) (kf : x1 < 12 → Ev d mX12_takesOff (38, [some (vR (some (22, 0, a0))), some (vI x1)], [], (I, S)) r) : Ev d mX12_takesOff (32, [some (vR (some (22, 0, a0))), some (vI x1)], [], (I, S)) r :=
  s_iload_n rfl rfl rfl <|
  s_bipush rfl rfl <|
  s_icmp_ge 69 rfl rfl (fun c => ev_forget [false, true] rfl <| kt c) kf
theorem b_X12_takesOff_38 {d : Nat} {r : PO × PM} {I : Nat → Nat → Int} {S : PS} {a0 p1 q1 p3 q3 : Nat} {x1 : Int} (hr1 : S.1 a0 39 = some (0, q1, p1)) (ho2 : -2147483648 ≤ 18 + x1 ∧ 18 + x1 ≤ 2147483647) (hr3 : S.1 a0 52 = some (0, q3, p3)) (ho4 : -2147483648 ≤ I a0 50 - 1 ∧ I a0 50 - 1 ≤ 2147483647) (ho5 : -2147483648 ≤ 12 * (I a0 50 - 1) ∧ 12 * (I a0 50 - 1) ≤ 2147483647) (ho6 : -2147483648 ≤ (12 * (I a0 50 - 1)) + x1 ∧ (12 * (I a0 50 - 1)) + x1 ≤ 2147483647) (hi7 : 0 ≤ (12 * (I a0 50 - 1)) + x1 ∧ (12 * (I a0 50 - 1)) + x1 < (q3 : Nat)) (hi8 : 0 ≤ 18 + x1 ∧ 18 + x1 < (q1 : Nat)) (ho9 : -2147483648 ≤ x1 + 1 ∧ x1 + 1 ≤ 2147483647) (k : Ev d mX12_takesOff (32, [some (vR (some (22, 0, a0))), some (vI (x1 + 1))], [], ((up2 I p1 ((18 + x1).toNat) (I p3 ((12 * (I a0 50 - 1)) + x1).toNat)), S)) r) : Ev d mX12_takesOff (38, [some (vR (some (22, 0, a0))), some (vI x1)], [], (I, S)) r :=
  s_aload_n rfl rfl rfl <|
  s_getR rfl rfl rfl hr1 <|
  s_bipush rfl rfl <|
  s_iload_n rfl rfl rfl <|
  s_iaddp rfl ho2 <|
  s_aload_n rfl rfl rfl <|
  s_getR rfl rfl rfl hr3 <|
  s_bipush rfl rfl <|
  s_aload_n rfl rfl rfl <|
  s_getI rfl rfl rfl <|
  s_iconst rfl rfl <|
  s_isubp rfl ho4 <|
  s_imulp rfl ho5 <|
  s_iload_n rfl rfl rfl <|
  s_iaddp rfl ho6 <|
  s_iald rfl rfl hi7 <|
  s_iast rfl hi8 <|
  s_iincp [some (vR (some (22, 0, a0))), some (vI (x1 + 1))] rfl rfl ho9 rfl <|
  s_goto 32 rfl rfl k
theorem b_X12_takesOff_69 {d : Nat} {I : Nat → Nat → Int} {S : PS} {a0 : Nat} : Ev d mX12_takesOff (69, [some (vR (some (22, 0, a0))), none], [], (I, S)) (.inl none, (I, S)) :=
  s_vret rfl rfl
theorem b_X12_isHere_0 {d : Nat} {r : PO × PM} {I : Nat → Nat → Int} {S : PS} {a0 : Nat} {x1 : Int} (kt : I a0 15 ≤ x1 → Ev d mX12_isHere (12, [some (vR (some (22, 0, a0))), some (vI x1)], [], (I, S)) r) (kf : x1 < I a0 15 → Ev d mX12_isHere (8, [some (vR (some (22, 0, a0))), some (vI x1)], [], (I, S)) r) : Ev d mX12_isHere (0, [some (vR (some (22, 0, a0))), some (vI x1)], [], (I, S)) r :=
  s_iload_n rfl rfl rfl <|
  s_aload_n rfl rfl rfl <|
  s_getI rfl rfl rfl <|
  s_icmp_ge 12 rfl rfl kt kf
theorem b_X12_isHere_8 {d : Nat} {r : PO × PM} {I : Nat → Nat → Int} {S : PS} {a0 : Nat} {x1 : Int} (k : Ev d mX12_isHere (13, [some (vR (some (22, 0, a0))), some (vI x1)], [vI 1], (I, S)) r) : Ev d mX12_isHere (8, [some (vR (some (22, 0, a0))), some (vI x1)], [], (I, S)) r :=
  s_iconst rfl rfl <|
  s_goto 13 rfl rfl k
theorem b_X12_isHere_12 {d : Nat} {r : PO × PM} {I : Nat → Nat → Int} {S : PS} {a0 : Nat} {x1 : Int} (k : Ev d mX12_isHere (13, [some (vR (some (22, 0, a0))), some (vI x1)], [vI 0], (I, S)) r) : Ev d mX12_isHere (12, [some (vR (some (22, 0, a0))), some (vI x1)], [], (I, S)) r :=
  s_iconst rfl rfl <|
  k
theorem b_X12_isHere_13 {d : Nat} {I : Nat → Nat → Int} {S : PS} {a0 : Nat} {x1 xs0 : Int} (hb1 : xs0 = 0 ∨ xs0 = 1) : Ev d mX12_isHere (13, [some (vR (some (22, 0, a0))), some (vI x1)], [vI xs0], (I, S)) (.inl (some (vI xs0)), (I, S)) :=
  s_retz rfl rfl hb1
theorem b_X12_isDone_0 {d : Nat} {r : PO × PM} {I : Nat → Nat → Int} {S : PS} {a0 : Nat} {x1 x2 x3 : Int} (k0 : x1 = 8 → Ev d mX12_isDone (32, [some (vR (some (22, 0, a0))), some (vI x1), some (vI x2), some (vI x3)], [], (I, S)) r) (k1 : x1 = 9 → Ev d mX12_isDone (65, [some (vR (some (22, 0, a0))), some (vI x1), some (vI x2), some (vI x3)], [], (I, S)) r) (k2 : x1 = 10 → Ev d mX12_isDone (100, [some (vR (some (22, 0, a0))), some (vI x1), some (vI x2), some (vI x3)], [], (I, S)) r) (k3 : x1 = 11 → Ev d mX12_isDone (132, [some (vR (some (22, 0, a0))), some (vI x1), some (vI x2), some (vI x3)], [], (I, S)) r) (kd : ¬(8 ≤ x1 ∧ x1 ≤ 11) → Ev d mX12_isDone (149, [some (vR (some (22, 0, a0))), some (vI x1), some (vI x2), some (vI x3)], [], (I, S)) r) : Ev d mX12_isDone (0, [some (vR (some (22, 0, a0))), some (vI x1), some (vI x2), some (vI x3)], [], (I, S)) r :=
  s_iload_n rfl rfl rfl <|
  s_sw 149 rfl (by decide) (fun c => kd c) (fun j hj => by
  match j, hj with
  | 0, _ => exact fun c => k0 c
  | 1, _ => exact fun c => k1 c
  | 2, _ => exact fun c => k2 c
  | 3, _ => exact fun c => k3 c
  | j + 4, hj => exact absurd hj (by simp))
theorem b_X12_isDone_32 {d : Nat} {r : PO × PM} {I : Nat → Nat → Int} {S : PS} {a0 : Nat} {x1 x2 x3 z : Int} {I1 : Nat → Nat → Int} {S1 : PS} (c : Ca d mX12_isHere [vR (some (22, 0, a0)), vI x2] (I, S) (.inl (some (vI z))) (I1, S1)) (k : Ev (d + 1) mX12_isDone (37, [some (vR (some (22, 0, a0))), some (vI x1), some (vI x2), some (vI x3)], [vI z], (I1, S1)) r) : Ev (d + 1) mX12_isDone (32, [some (vR (some (22, 0, a0))), some (vI x1), some (vI x2), some (vI x3)], [], (I, S)) r :=
  s_aload_n rfl rfl rfl <|
  s_iload_n rfl rfl rfl <|
  s_cvI rfl rfl rfl rfl rfl c k
theorem b_X12_isDone_37 {d : Nat} {r : PO × PM} {I : Nat → Nat → Int} {S : PS} {a0 : Nat} {x1 x2 x3 xs0 : Int} (kt : xs0 = 0 → Ev d mX12_isDone (51, [some (vR (some (22, 0, a0))), some (vI x1), some (vI x2), some (vI x3)], [], (I, S)) r) (kf : xs0 ≠ 0 → Ev d mX12_isDone (40, [some (vR (some (22, 0, a0))), some (vI x1), some (vI x2), some (vI x3)], [], (I, S)) r) : Ev d mX12_isDone (37, [some (vR (some (22, 0, a0))), some (vI x1), some (vI x2), some (vI x3)], [vI xs0], (I, S)) r :=
  s_if_eq 51 rfl rfl kt kf
theorem b_X12_isDone_40 {d : Nat} {r : PO × PM} {I : Nat → Nat → Int} {S : PS} {a0 : Nat} {x1 x2 x3 z : Int} {I1 : Nat → Nat → Int} {S1 : PS} (c : Ca d mX12_canPaint [vR (some (22, 0, a0)), vI 18, vI x2, vI x3] (I, S) (.inl (some (vI z))) (I1, S1)) (k : Ev (d + 1) mX12_isDone (48, [some (vR (some (22, 0, a0))), some (vI x1), some (vI x2), some (vI x3)], [vI z], (I1, S1)) r) : Ev (d + 1) mX12_isDone (40, [some (vR (some (22, 0, a0))), some (vI x1), some (vI x2), some (vI x3)], [], (I, S)) r :=
  s_aload_n rfl rfl rfl <|
  s_bipush rfl rfl <|
  s_iload_n rfl rfl rfl <|
  s_iload_n rfl rfl rfl <|
  s_cvI rfl rfl rfl rfl rfl c k
theorem b_X12_isDone_48 {d : Nat} {r : PO × PM} {I : Nat → Nat → Int} {S : PS} {a0 : Nat} {x1 x2 x3 xs0 : Int} (kt : xs0 ≠ 0 → Ev d mX12_isDone (53, [some (vR (some (22, 0, a0))), some (vI x1), some (vI x2), some (vI x3)], [], (I, S)) r) (kf : xs0 = 0 → Ev d mX12_isDone (51, [some (vR (some (22, 0, a0))), some (vI x1), some (vI x2), some (vI x3)], [], (I, S)) r) : Ev d mX12_isDone (48, [some (vR (some (22, 0, a0))), some (vI x1), some (vI x2), some (vI x3)], [vI xs0], (I, S)) r :=
  s_if_ne 53 rfl rfl kt kf
theorem b_X12_isDone_51 {d : Nat} {I : Nat → Nat → Int} {S : PS} {a0 : Nat} {x1 x2 x3 : Int} : Ev d mX12_isDone (51, [some (vR (some (22, 0, a0))), some (vI x1), some (vI x2), some (vI x3)], [], (I, S)) (.inl (some (vI 0)), (I, S)) :=
  s_iconst rfl rfl <|
  s_ret rfl rfl
theorem b_X12_isDone_53 {d : Nat} {I : Nat → Nat → Int} {S : PS} {a0 p1 q1 : Nat} {x1 x2 x3 : Int} (hr1 : S.1 a0 39 = some (0, q1, p1)) (ho2 : -2147483648 ≤ 18 + x2 ∧ 18 + x2 ≤ 2147483647) (hi3 : 0 ≤ 18 + x2 ∧ 18 + x2 < (q1 : Nat)) : Ev d mX12_isDone (53, [some (vR (some (22, 0, a0))), some (vI x1), some (vI x2), some (vI x3)], [], (I, S)) (.inl (some (vI 1)), ((up2 I p1 ((18 + x2).toNat) x3), S)) :=
  s_aload_n rfl rfl rfl <|
  s_getR rfl rfl rfl hr1 <|
  s_bipush rfl rfl <|
  s_iload_n rfl rfl rfl <|
  s_iaddp rfl ho2 <|
  s_iload_n rfl rfl rfl <|
  s_iast rfl hi3 <|
  s_iconst rfl rfl <|
  s_ret rfl rfl
theorem b_X12_isDone_65 {d : Nat} {r : PO × PM} {I : Nat → Nat → Int} {S : PS} {a0 : Nat} {x1 x2 x3 z : Int} {I1 : Nat → Nat → Int} {S1 : PS} (c : Ca d mX12_isHere [vR (some (22, 0, a0)), vI x2] (I, S) (.inl (some (vI z))) (I1, S1)) (k : Ev (d + 1) mX12_isDone (70, [some (vR (some (22, 0, a0))), some (vI x1), some (vI x2), some (vI x3)], [vI z], (I1, S1)) r) : Ev (d + 1) mX12_isDone (65, [some (vR (some (22, 0, a0))), some (vI x1), some (vI x2), some (vI x3)], [], (I, S)) r :=
  s_aload_n rfl rfl rfl <|
  s_iload_n rfl rfl rfl <|
  s_cvI rfl rfl rfl rfl rfl c k
theorem b_X12_isDone_70 {d : Nat} {r : PO × PM} {I : Nat → Nat → Int} {S : PS} {a0 : Nat} {x1 x2 x3 xs0 : Int} (kt : xs0 = 0 → Ev d mX12_isDone (86, [some (vR (some (22, 0, a0))), some (vI x1), some (vI x2), some (vI x3)], [], (I, S)) r) (kf : xs0 ≠ 0 → Ev d mX12_isDone (73, [some (vR (some (22, 0, a0))), some (vI x1), some (vI x2), some (vI x3)], [], (I, S)) r) : Ev d mX12_isDone (70, [some (vR (some (22, 0, a0))), some (vI x1), some (vI x2), some (vI x3)], [vI xs0], (I, S)) r :=
  s_if_eq 86 rfl rfl kt kf
theorem b_X12_isDone_73 {d : Nat} {r : PO × PM} {I : Nat → Nat → Int} {S : PS} {a0 p1 q1 : Nat} {x1 x2 x3 : Int} (hr1 : S.1 a0 39 = some (0, q1, p1)) (ho2 : -2147483648 ≤ 18 + x2 ∧ 18 + x2 ≤ 2147483647) (hi3 : 0 ≤ 18 + x2 ∧ 18 + x2 < (q1 : Nat)) (kt : I p1 (18 + x2).toNat ≠ (-1) → Ev d mX12_isDone (88, [some (vR (some (22, 0, a0))), some (vI x1), some (vI x2), some (vI x3)], [], (I, S)) r) (kf : I p1 (18 + x2).toNat = (-1) → Ev d mX12_isDone (86, [some (vR (some (22, 0, a0))), some (vI x1), some (vI x2), some (vI x3)], [], (I, S)) r) : Ev d mX12_isDone (73, [some (vR (some (22, 0, a0))), some (vI x1), some (vI x2), some (vI x3)], [], (I, S)) r :=
  s_aload_n rfl rfl rfl <|
  s_getR rfl rfl rfl hr1 <|
  s_bipush rfl rfl <|
  s_iload_n rfl rfl rfl <|
  s_iaddp rfl ho2 <|
  s_iald rfl rfl hi3 <|
  s_iconst rfl rfl <|
  s_icmp_ne 88 rfl rfl kt kf
theorem b_X12_isDone_86 {d : Nat} {I : Nat → Nat → Int} {S : PS} {a0 : Nat} {x1 x2 x3 : Int} : Ev d mX12_isDone (86, [some (vR (some (22, 0, a0))), some (vI x1), some (vI x2), some (vI x3)], [], (I, S)) (.inl (some (vI 0)), (I, S)) :=
  s_iconst rfl rfl <|
  s_ret rfl rfl
theorem b_X12_isDone_88 {d : Nat} {I : Nat → Nat → Int} {S : PS} {a0 p1 q1 : Nat} {x1 x2 x3 : Int} (hr1 : S.1 a0 39 = some (0, q1, p1)) (ho2 : -2147483648 ≤ 18 + x2 ∧ 18 + x2 ≤ 2147483647) (hi3 : 0 ≤ 18 + x2 ∧ 18 + x2 < (q1 : Nat)) : Ev d mX12_isDone (88, [some (vR (some (22, 0, a0))), some (vI x1), some (vI x2), some (vI x3)], [], (I, S)) (.inl (some (vI 1)), ((up2 I p1 ((18 + x2).toNat) (-1)), S)) :=
  s_aload_n rfl rfl rfl <|
  s_getR rfl rfl rfl hr1 <|
  s_bipush rfl rfl <|
  s_iload_n rfl rfl rfl <|
  s_iaddp rfl ho2 <|
  s_iconst rfl rfl <|
  s_iast rfl hi3 <|
  s_iconst rfl rfl <|
  s_ret rfl rfl
theorem b_X12_isDone_100 {d : Nat} {r : PO × PM} {I : Nat → Nat → Int} {S : PS} {a0 : Nat} {x1 x2 x3 z : Int} {I1 : Nat → Nat → Int} {S1 : PS} (c : Ca d mX12_isHere [vR (some (22, 0, a0)), vI x2] (I, S) (.inl (some (vI z))) (I1, S1)) (k : Ev (d + 1) mX12_isDone (105, [some (vR (some (22, 0, a0))), some (vI x1), some (vI x2), some (vI x3)], [vI z], (I1, S1)) r) : Ev (d + 1) mX12_isDone (100, [some (vR (some (22, 0, a0))), some (vI x1), some (vI x2), some (vI x3)], [], (I, S)) r :=
  s_aload_n rfl rfl rfl <|
  s_iload_n rfl rfl rfl <|
  s_cvI rfl rfl rfl rfl rfl c k
theorem b_X12_isDone_105 {d : Nat} {r : PO × PM} {I : Nat → Nat → Int} {S : PS} {a0 : Nat} {x1 x2 x3 xs0 : Int} (kt : xs0 = 0 → Ev d mX12_isDone (119, [some (vR (some (22, 0, a0))), some (vI x1), some (vI x2), some (vI x3)], [], (I, S)) r) (kf : xs0 ≠ 0 → Ev d mX12_isDone (108, [some (vR (some (22, 0, a0))), some (vI x1), some (vI x2), some (vI x3)], [], (I, S)) r) : Ev d mX12_isDone (105, [some (vR (some (22, 0, a0))), some (vI x1), some (vI x2), some (vI x3)], [vI xs0], (I, S)) r :=
  s_if_eq 119 rfl rfl kt kf
theorem b_X12_isDone_108 {d : Nat} {r : PO × PM} {I : Nat → Nat → Int} {S : PS} {a0 : Nat} {x1 x2 x3 z : Int} {I1 : Nat → Nat → Int} {S1 : PS} (c : Ca d mX12_canSwap [vR (some (22, 0, a0)), vI 18, vI x2, vI x3] (I, S) (.inl (some (vI z))) (I1, S1)) (k : Ev (d + 1) mX12_isDone (116, [some (vR (some (22, 0, a0))), some (vI x1), some (vI x2), some (vI x3)], [vI z], (I1, S1)) r) : Ev (d + 1) mX12_isDone (108, [some (vR (some (22, 0, a0))), some (vI x1), some (vI x2), some (vI x3)], [], (I, S)) r :=
  s_aload_n rfl rfl rfl <|
  s_bipush rfl rfl <|
  s_iload_n rfl rfl rfl <|
  s_iload_n rfl rfl rfl <|
  s_cvI rfl rfl rfl rfl rfl c k
theorem b_X12_isDone_116 {d : Nat} {r : PO × PM} {I : Nat → Nat → Int} {S : PS} {a0 : Nat} {x1 x2 x3 xs0 : Int} (kt : xs0 ≠ 0 → Ev d mX12_isDone (121, [some (vR (some (22, 0, a0))), some (vI x1), some (vI x2), some (vI x3)], [], (I, S)) r) (kf : xs0 = 0 → Ev d mX12_isDone (119, [some (vR (some (22, 0, a0))), some (vI x1), some (vI x2), some (vI x3)], [], (I, S)) r) : Ev d mX12_isDone (116, [some (vR (some (22, 0, a0))), some (vI x1), some (vI x2), some (vI x3)], [vI xs0], (I, S)) r :=
  s_if_ne 121 rfl rfl kt kf
theorem b_X12_isDone_119 {d : Nat} {I : Nat → Nat → Int} {S : PS} {a0 : Nat} {x1 x2 x3 : Int} : Ev d mX12_isDone (119, [some (vR (some (22, 0, a0))), some (vI x1), some (vI x2), some (vI x3)], [], (I, S)) (.inl (some (vI 0)), (I, S)) :=
  s_iconst rfl rfl <|
  s_ret rfl rfl
theorem b_X12_isDone_121 {d : Nat} {r : PO × PM} {I : Nat → Nat → Int} {S : PS} {a0 : Nat} {x1 x2 x3 z : Int} {I1 : Nat → Nat → Int} {S1 : PS} (c : Ca d mX12_swaps [vR (some (22, 0, a0)), vI 18, vI x2, vI x3] (I, S) (.inl (some (vI z))) (I1, S1)) (k : Ev (d + 1) mX12_isDone (129, [some (vR (some (22, 0, a0))), some (vI x1), some (vI x2), some (vI x3)], [vI z], (I1, S1)) r) : Ev (d + 1) mX12_isDone (121, [some (vR (some (22, 0, a0))), some (vI x1), some (vI x2), some (vI x3)], [], (I, S)) r :=
  s_aload_n rfl rfl rfl <|
  s_bipush rfl rfl <|
  s_iload_n rfl rfl rfl <|
  s_iload_n rfl rfl rfl <|
  s_cvI rfl rfl rfl rfl rfl c k
theorem b_X12_isDone_129 {d : Nat} {I : Nat → Nat → Int} {S : PS} {a0 : Nat} {x1 x2 x3 xs0 : Int} : Ev d mX12_isDone (129, [some (vR (some (22, 0, a0))), some (vI x1), some (vI x2), some (vI x3)], [vI xs0], (I, S)) (.inl (some (vI 1)), (I, S)) :=
  s_pop rfl rfl <|
  s_iconst rfl rfl <|
  s_ret rfl rfl
theorem b_X12_isDone_132 {d : Nat} {r : PO × PM} {I : Nat → Nat → Int} {S : PS} {a0 : Nat} {x1 x2 x3 : Int} (kt : I a0 50 ≠ 8 → Ev d mX12_isDone (143, [some (vR (some (22, 0, a0))), some (vI x1), some (vI x2), some (vI x3)], [], (I, S)) r) (kf : I a0 50 = 8 → Ev d mX12_isDone (141, [some (vR (some (22, 0, a0))), some (vI x1), some (vI x2), some (vI x3)], [], (I, S)) r) : Ev d mX12_isDone (132, [some (vR (some (22, 0, a0))), some (vI x1), some (vI x2), some (vI x3)], [], (I, S)) r :=
  s_aload_n rfl rfl rfl <|
  s_getI rfl rfl rfl <|
  s_bipush rfl rfl <|
  s_icmp_ne 143 rfl rfl kt kf
theorem b_X12_isDone_141 {d : Nat} {I : Nat → Nat → Int} {S : PS} {a0 : Nat} {x1 x2 x3 : Int} : Ev d mX12_isDone (141, [some (vR (some (22, 0, a0))), some (vI x1), some (vI x2), some (vI x3)], [], (I, S)) (.inl (some (vI 0)), (I, S)) :=
  s_iconst rfl rfl <|
  s_ret rfl rfl
theorem b_X12_isDone_143 {d : Nat} {r : PO × PM} {I : Nat → Nat → Int} {S : PS} {a0 : Nat} {x1 x2 x3 : Int} {I1 : Nat → Nat → Int} {S1 : PS} (c : Ca d mX12_laysSheet [vR (some (22, 0, a0))] (I, S) (.inl none) (I1, S1)) (k : Ev (d + 1) mX12_isDone (147, [some (vR (some (22, 0, a0))), some (vI x1), some (vI x2), some (vI x3)], [], (I1, S1)) r) : Ev (d + 1) mX12_isDone (143, [some (vR (some (22, 0, a0))), some (vI x1), some (vI x2), some (vI x3)], [], (I, S)) r :=
  s_aload_n rfl rfl rfl <|
  s_cvV rfl rfl rfl rfl rfl c k
theorem b_X12_isDone_147 {d : Nat} {I : Nat → Nat → Int} {S : PS} {a0 : Nat} {x1 x2 x3 : Int} : Ev d mX12_isDone (147, [some (vR (some (22, 0, a0))), some (vI x1), some (vI x2), some (vI x3)], [], (I, S)) (.inl (some (vI 1)), (I, S)) :=
  s_iconst rfl rfl <|
  s_ret rfl rfl
theorem b_X12_isDone_149 {d : Nat} {r : PO × PM} {I : Nat → Nat → Int} {S : PS} {a0 : Nat} {x1 x2 x3 : Int} (kt : I a0 50 ≠ 1 → Ev d mX12_isDone (159, [some (vR (some (22, 0, a0))), some (vI x1), some (vI x2), some (vI x3)], [], (I, S)) r) (kf : I a0 50 = 1 → Ev d mX12_isDone (157, [some (vR (some (22, 0, a0))), some (vI x1), some (vI x2), some (vI x3)], [], (I, S)) r) : Ev d mX12_isDone (149, [some (vR (some (22, 0, a0))), some (vI x1), some (vI x2), some (vI x3)], [], (I, S)) r :=
  s_aload_n rfl rfl rfl <|
  s_getI rfl rfl rfl <|
  s_iconst rfl rfl <|
  s_icmp_ne 159 rfl rfl kt kf
theorem b_X12_isDone_157 {d : Nat} {I : Nat → Nat → Int} {S : PS} {a0 : Nat} {x1 x2 x3 : Int} : Ev d mX12_isDone (157, [some (vR (some (22, 0, a0))), some (vI x1), some (vI x2), some (vI x3)], [], (I, S)) (.inl (some (vI 0)), (I, S)) :=
  s_iconst rfl rfl <|
  s_ret rfl rfl
theorem b_X12_isDone_159 {d : Nat} {r : PO × PM} {I : Nat → Nat → Int} {S : PS} {a0 : Nat} {x1 x2 x3 : Int} {I1 : Nat → Nat → Int} {S1 : PS} (c : Ca d mX12_takesOff [vR (some (22, 0, a0))] (I, S) (.inl none) (I1, S1)) (k : Ev (d + 1) mX12_isDone (163, [some (vR (some (22, 0, a0))), some (vI x1), some (vI x2), some (vI x3)], [], (I1, S1)) r) : Ev (d + 1) mX12_isDone (159, [some (vR (some (22, 0, a0))), some (vI x1), some (vI x2), some (vI x3)], [], (I, S)) r :=
  s_aload_n rfl rfl rfl <|
  s_cvV rfl rfl rfl rfl rfl c k
theorem b_X12_isDone_163 {d : Nat} {I : Nat → Nat → Int} {S : PS} {a0 : Nat} {x1 x2 x3 : Int} : Ev d mX12_isDone (163, [some (vR (some (22, 0, a0))), some (vI x1), some (vI x2), some (vI x3)], [], (I, S)) (.inl (some (vI 1)), (I, S)) :=
  s_iconst rfl rfl <|
  s_ret rfl rfl
theorem b_X12_smallNumber_0 {d : Nat} {r : PO × PM} {I : Nat → Nat → Int} {S : PS} {a0 : Nat} {I1 : Nat → Nat → Int} {S1 : PS} {z : Int} (c : Ca d mX12_isGood [vR (some (22, 0, a0))] (I, S) (.inl (some (vI z))) (I1, S1)) (k : Ev (d + 1) mX12_smallNumber (4, [some (vR (some (22, 0, a0))), none], [vI z], (I1, S1)) r) : Ev (d + 1) mX12_smallNumber (0, [some (vR (some (22, 0, a0))), none], [], (I, S)) r :=
  s_aload_n rfl rfl rfl <|
  s_cvI rfl rfl rfl rfl rfl c k
theorem b_X12_smallNumber_4 {d : Nat} {r : PO × PM} {I : Nat → Nat → Int} {S : PS} {a0 : Nat} {xs0 : Int} (kt : xs0 ≠ 0 → Ev d mX12_smallNumber (9, [some (vR (some (22, 0, a0))), none], [], (I, S)) r) (kf : xs0 = 0 → Ev d mX12_smallNumber (7, [some (vR (some (22, 0, a0))), none], [], (I, S)) r) : Ev d mX12_smallNumber (4, [some (vR (some (22, 0, a0))), none], [vI xs0], (I, S)) r :=
  s_if_ne 9 rfl rfl kt kf
theorem b_X12_smallNumber_7 {d : Nat} {I : Nat → Nat → Int} {S : PS} {a0 : Nat} : Ev d mX12_smallNumber (7, [some (vR (some (22, 0, a0))), none], [], (I, S)) (.inl (some (vI 0)), (I, S)) :=
  s_iconst rfl rfl <|
  s_ret rfl rfl
theorem b_X12_smallNumber_9 {d : Nat} {r : PO × PM} {I : Nat → Nat → Int} {S : PS} {a0 : Nat} (kt : I a0 8 ≠ 2 → Ev d mX12_smallNumber (25, [some (vR (some (22, 0, a0))), none], [], (I, S)) r) (kf : I a0 8 = 2 → Ev d mX12_smallNumber (17, [some (vR (some (22, 0, a0))), none], [], (I, S)) r) : Ev d mX12_smallNumber (9, [some (vR (some (22, 0, a0))), none], [], (I, S)) r :=
  s_aload_n rfl rfl rfl <|
  s_getI rfl rfl rfl <|
  s_iconst rfl rfl <|
  s_icmp_ne 25 rfl rfl kt kf
theorem b_X12_smallNumber_17 {d : Nat} {r : PO × PM} {I : Nat → Nat → Int} {S : PS} {a0 : Nat} (kt : I a0 10 ≤ 4 → Ev d mX12_smallNumber (30, [some (vR (some (22, 0, a0))), none], [], (I, S)) r) (kf : 4 < I a0 10 → Ev d mX12_smallNumber (25, [some (vR (some (22, 0, a0))), none], [], (I, S)) r) : Ev d mX12_smallNumber (17, [some (vR (some (22, 0, a0))), none], [], (I, S)) r :=
  s_aload_n rfl rfl rfl <|
  s_getI rfl rfl rfl <|
  s_iconst rfl rfl <|
  s_icmp_le 30 rfl rfl kt kf
theorem b_X12_smallNumber_25 {d : Nat} {r : PO × PM} {I : Nat → Nat → Int} {S : PS} {a0 : Nat} {I1 : Nat → Nat → Int} {S1 : PS} (c : Ca d mX12_wrong [vR (some (22, 0, a0)), vI 1] (I, S) (.inl none) (I1, S1)) (k : Ev (d + 1) mX12_smallNumber (30, [some (vR (some (22, 0, a0))), none], [], (I1, S1)) r) : Ev (d + 1) mX12_smallNumber (25, [some (vR (some (22, 0, a0))), none], [], (I, S)) r :=
  s_aload_n rfl rfl rfl <|
  s_iconst rfl rfl <|
  s_cvV rfl rfl rfl rfl rfl c k
theorem b_X12_smallNumber_30 {d : Nat} {r : PO × PM} {I : Nat → Nat → Int} {S : PS} {a0 : Nat} {I1 : Nat → Nat → Int} {S1 : PS} {z : Int} (c : Ca d mX12_isGood [vR (some (22, 0, a0))] (I, S) (.inl (some (vI z))) (I1, S1)) (k : Ev (d + 1) mX12_smallNumber (39, [some (vR (some (22, 0, a0))), some (vI (I a0 11))], [vI z], (I1, S1)) r) : Ev (d + 1) mX12_smallNumber (30, [some (vR (some (22, 0, a0))), none], [], (I, S)) r :=
  s_aload_n rfl rfl rfl <|
  s_getI rfl rfl rfl <|
  s_istore_n [some (vR (some (22, 0, a0))), some (vI (I a0 11))] rfl rfl <|
  s_aload_n rfl rfl rfl <|
  s_cvI rfl rfl rfl rfl rfl c k
theorem b_X12_smallNumber_39 {d : Nat} {r : PO × PM} {I : Nat → Nat → Int} {S : PS} {a0 : Nat} {x1 xs0 : Int} (kt : xs0 = 0 → Ev d mX12_smallNumber (46, [some (vR (some (22, 0, a0))), some (vI x1)], [], (I, S)) r) (kf : xs0 ≠ 0 → Ev d mX12_smallNumber (42, [some (vR (some (22, 0, a0))), some (vI x1)], [], (I, S)) r) : Ev d mX12_smallNumber (39, [some (vR (some (22, 0, a0))), some (vI x1)], [vI xs0], (I, S)) r :=
  s_if_eq 46 rfl rfl kt kf
theorem b_X12_smallNumber_42 {d : Nat} {r : PO × PM} {I : Nat → Nat → Int} {S : PS} {a0 : Nat} {x1 : Int} {I1 : Nat → Nat → Int} {S1 : PS} (c : Ca d mX12_goes [vR (some (22, 0, a0))] (I, S) (.inl none) (I1, S1)) (k : Ev (d + 1) mX12_smallNumber (46, [some (vR (some (22, 0, a0))), some (vI x1)], [], (I1, S1)) r) : Ev (d + 1) mX12_smallNumber (42, [some (vR (some (22, 0, a0))), some (vI x1)], [], (I, S)) r :=
  s_aload_n rfl rfl rfl <|
  s_cvV rfl rfl rfl rfl rfl c k
theorem b_X12_smallNumber_46 {d : Nat} {I : Nat → Nat → Int} {S : PS} {a0 : Nat} {x1 : Int} : Ev d mX12_smallNumber (46, [some (vR (some (22, 0, a0))), some (vI x1)], [], (I, S)) (.inl (some (vI x1)), (I, S)) :=
  s_iload_n rfl rfl rfl <|
  s_ret rfl rfl
theorem b_X12_stepOf_0 {d : Nat} {r : PO × PM} {I : Nat → Nat → Int} {S : PS} {a0 : Nat} {I1 : Nat → Nat → Int} {S1 : PS} {z : Int} (c : Ca d mX12_knownWord [vR (some (22, 0, a0))] (I, S) (.inl (some (vI z))) (I1, S1)) (k : Ev (d + 1) mX12_stepOf (9, [some (vR (some (22, 0, a0))), some (vI (I a0 9)), none, none, none], [vI z], (I1, S1)) r) : Ev (d + 1) mX12_stepOf (0, [some (vR (some (22, 0, a0))), none, none, none, none], [], (I, S)) r :=
  s_aload_n rfl rfl rfl <|
  s_getI rfl rfl rfl <|
  s_istore_n [some (vR (some (22, 0, a0))), some (vI (I a0 9)), none, none, none] rfl rfl <|
  s_aload_n rfl rfl rfl <|
  s_cvI rfl rfl rfl rfl rfl c k
theorem b_X12_stepOf_9 {d : Nat} {r : PO × PM} {I : Nat → Nat → Int} {S : PS} {a0 : Nat} {x1 xs0 : Int} (kt : 8 ≤ xs0 → Ev d mX12_stepOf (21, [some (vR (some (22, 0, a0))), some (vI x1), some (vI xs0), none, none], [], (I, S)) r) (kf : xs0 < 8 → Ev d mX12_stepOf (16, [some (vR (some (22, 0, a0))), some (vI x1), some (vI xs0), none, none], [], (I, S)) r) : Ev d mX12_stepOf (9, [some (vR (some (22, 0, a0))), some (vI x1), none, none, none], [vI xs0], (I, S)) r :=
  s_istore_n [some (vR (some (22, 0, a0))), some (vI x1), some (vI xs0), none, none] rfl rfl <|
  s_iload_n rfl rfl rfl <|
  s_bipush rfl rfl <|
  s_icmp_ge 21 rfl rfl kt kf
theorem b_X12_stepOf_16 {d : Nat} {r : PO × PM} {I : Nat → Nat → Int} {S : PS} {a0 : Nat} {x1 x2 : Int} {I1 : Nat → Nat → Int} {S1 : PS} (c : Ca d mX12_wrong [vR (some (22, 0, a0)), vI 1] (I, S) (.inl none) (I1, S1)) (k : Ev (d + 1) mX12_stepOf (21, [some (vR (some (22, 0, a0))), some (vI x1), some (vI x2), none, none], [], (I1, S1)) r) : Ev (d + 1) mX12_stepOf (16, [some (vR (some (22, 0, a0))), some (vI x1), some (vI x2), none, none], [], (I, S)) r :=
  s_aload_n rfl rfl rfl <|
  s_iconst rfl rfl <|
  s_cvV rfl rfl rfl rfl rfl c k
theorem b_X12_stepOf_21 {d : Nat} {r : PO × PM} {I : Nat → Nat → Int} {S : PS} {a0 : Nat} {x1 x2 z : Int} {I1 : Nat → Nat → Int} {S1 : PS} (c : Ca d mX12_isGood [vR (some (22, 0, a0))] (I, S) (.inl (some (vI z))) (I1, S1)) (k : Ev (d + 1) mX12_stepOf (25, [some (vR (some (22, 0, a0))), some (vI x1), some (vI x2), none, none], [vI z], (I1, S1)) r) : Ev (d + 1) mX12_stepOf (21, [some (vR (some (22, 0, a0))), some (vI x1), some (vI x2), none, none], [], (I, S)) r :=
  s_aload_n rfl rfl rfl <|
  s_cvI rfl rfl rfl rfl rfl c k
theorem b_X12_stepOf_25 {d : Nat} {r : PO × PM} {I : Nat → Nat → Int} {S : PS} {a0 : Nat} {x1 x2 xs0 : Int} (kt : xs0 ≠ 0 → Ev d mX12_stepOf (29, [some (vR (some (22, 0, a0))), some (vI x1), some (vI x2), none, none], [], (I, S)) r) (kf : xs0 = 0 → Ev d mX12_stepOf (28, [some (vR (some (22, 0, a0))), some (vI x1), some (vI x2), none, none], [], (I, S)) r) : Ev d mX12_stepOf (25, [some (vR (some (22, 0, a0))), some (vI x1), some (vI x2), none, none], [vI xs0], (I, S)) r :=
  s_if_ne 29 rfl rfl kt kf
theorem b_X12_stepOf_28 {d : Nat} {I : Nat → Nat → Int} {S : PS} {a0 : Nat} {x1 x2 : Int} : Ev d mX12_stepOf (28, [some (vR (some (22, 0, a0))), some (vI x1), some (vI x2), none, none], [], (I, S)) (.inl none, (I, S)) :=
  s_vret rfl rfl
theorem b_X12_stepOf_29 {d : Nat} {r : PO × PM} {I : Nat → Nat → Int} {S : PS} {a0 : Nat} {x1 x2 : Int} {I1 : Nat → Nat → Int} {S1 : PS} (c : Ca d mX12_goes [vR (some (22, 0, a0))] (I, S) (.inl none) (I1, S1)) (k : Ev (d + 1) mX12_stepOf (33, [some (vR (some (22, 0, a0))), some (vI x1), some (vI x2), none, none], [], (I1, S1)) r) : Ev (d + 1) mX12_stepOf (29, [some (vR (some (22, 0, a0))), some (vI x1), some (vI x2), none, none], [], (I, S)) r :=
  s_aload_n rfl rfl rfl <|
  s_cvV rfl rfl rfl rfl rfl c k
theorem b_X12_stepOf_33 {d : Nat} {r : PO × PM} {I : Nat → Nat → Int} {S : PS} {a0 : Nat} {x1 x2 : Int} (kt : 10 < x2 → Ev d mX12_stepOf (46, [some (vR (some (22, 0, a0))), some (vI x1), some (vI x2), none, none], [], (I, S)) r) (kf : x2 ≤ 10 → Ev d mX12_stepOf (39, [some (vR (some (22, 0, a0))), some (vI x1), some (vI x2), none, none], [], (I, S)) r) : Ev d mX12_stepOf (33, [some (vR (some (22, 0, a0))), some (vI x1), some (vI x2), none, none], [], (I, S)) r :=
  s_iload_n rfl rfl rfl <|
  s_bipush rfl rfl <|
  s_icmp_gt 46 rfl rfl kt kf
theorem b_X12_stepOf_39 {d : Nat} {r : PO × PM} {I : Nat → Nat → Int} {S : PS} {a0 : Nat} {x1 x2 z : Int} {I1 : Nat → Nat → Int} {S1 : PS} (c : Ca d mX12_smallNumber [vR (some (22, 0, a0))] (I, S) (.inl (some (vI z))) (I1, S1)) (k : Ev (d + 1) mX12_stepOf (43, [some (vR (some (22, 0, a0))), some (vI x1), some (vI x2), none, none], [vI z], (I1, S1)) r) : Ev (d + 1) mX12_stepOf (39, [some (vR (some (22, 0, a0))), some (vI x1), some (vI x2), none, none], [], (I, S)) r :=
  s_aload_n rfl rfl rfl <|
  s_cvI rfl rfl rfl rfl rfl c k
theorem b_X12_stepOf_43 {d : Nat} {r : PO × PM} {I : Nat → Nat → Int} {S : PS} {a0 : Nat} {x1 x2 xs0 : Int} (k : Ev d mX12_stepOf (47, [some (vR (some (22, 0, a0))), some (vI x1), some (vI x2), none, none], [vI xs0], (I, S)) r) : Ev d mX12_stepOf (43, [some (vR (some (22, 0, a0))), some (vI x1), some (vI x2), none, none], [vI xs0], (I, S)) r :=
  s_goto 47 rfl rfl k
theorem b_X12_stepOf_46 {d : Nat} {r : PO × PM} {I : Nat → Nat → Int} {S : PS} {a0 : Nat} {x1 x2 : Int} (k : Ev d mX12_stepOf (47, [some (vR (some (22, 0, a0))), some (vI x1), some (vI x2), none, none], [vI 0], (I, S)) r) : Ev d mX12_stepOf (46, [some (vR (some (22, 0, a0))), some (vI x1), some (vI x2), none, none], [], (I, S)) r :=
  s_iconst rfl rfl <|
  k
theorem b_X12_stepOf_47 {d : Nat} {r : PO × PM} {I : Nat → Nat → Int} {S : PS} {a0 : Nat} {x1 x2 xs0 : Int} (kt : x2 = 8 → Ev d mX12_stepOf (60, [some (vR (some (22, 0, a0))), some (vI x1), some (vI x2), some (vI xs0), none], [], (I, S)) r) (kf : x2 ≠ 8 → Ev d mX12_stepOf (54, [some (vR (some (22, 0, a0))), some (vI x1), some (vI x2), some (vI xs0), none], [], (I, S)) r) : Ev d mX12_stepOf (47, [some (vR (some (22, 0, a0))), some (vI x1), some (vI x2), none, none], [vI xs0], (I, S)) r :=
  s_istore_n [some (vR (some (22, 0, a0))), some (vI x1), some (vI x2), some (vI xs0), none] rfl rfl <|
  s_iload_n rfl rfl rfl <|
  s_bipush rfl rfl <|
  s_icmp_eq 60 rfl rfl kt kf
theorem b_X12_stepOf_54 {d : Nat} {r : PO × PM} {I : Nat → Nat → Int} {S : PS} {a0 : Nat} {x1 x2 x3 : Int} (kt : x2 ≠ 10 → Ev d mX12_stepOf (67, [some (vR (some (22, 0, a0))), some (vI x1), some (vI x2), some (vI x3), none], [], (I, S)) r) (kf : x2 = 10 → Ev d mX12_stepOf (60, [some (vR (some (22, 0, a0))), some (vI x1), some (vI x2), some (vI x3), none], [], (I, S)) r) : Ev d mX12_stepOf (54, [some (vR (some (22, 0, a0))), some (vI x1), some (vI x2), some (vI x3), none], [], (I, S)) r :=
  s_iload_n rfl rfl rfl <|
  s_bipush rfl rfl <|
  s_icmp_ne 67 rfl rfl kt kf
theorem b_X12_stepOf_60 {d : Nat} {r : PO × PM} {I : Nat → Nat → Int} {S : PS} {a0 : Nat} {x1 x2 x3 z : Int} {I1 : Nat → Nat → Int} {S1 : PS} (c : Ca d mX12_smallNumber [vR (some (22, 0, a0))] (I, S) (.inl (some (vI z))) (I1, S1)) (k : Ev (d + 1) mX12_stepOf (64, [some (vR (some (22, 0, a0))), some (vI x1), some (vI x2), some (vI x3), none], [vI z], (I1, S1)) r) : Ev (d + 1) mX12_stepOf (60, [some (vR (some (22, 0, a0))), some (vI x1), some (vI x2), some (vI x3), none], [], (I, S)) r :=
  s_aload_n rfl rfl rfl <|
  s_cvI rfl rfl rfl rfl rfl c k
theorem b_X12_stepOf_64 {d : Nat} {r : PO × PM} {I : Nat → Nat → Int} {S : PS} {a0 : Nat} {x1 x2 x3 xs0 : Int} (k : Ev d mX12_stepOf (68, [some (vR (some (22, 0, a0))), some (vI x1), some (vI x2), some (vI x3), none], [vI xs0], (I, S)) r) : Ev d mX12_stepOf (64, [some (vR (some (22, 0, a0))), some (vI x1), some (vI x2), some (vI x3), none], [vI xs0], (I, S)) r :=
  s_goto 68 rfl rfl k
theorem b_X12_stepOf_67 {d : Nat} {r : PO × PM} {I : Nat → Nat → Int} {S : PS} {a0 : Nat} {x1 x2 x3 : Int} (k : Ev d mX12_stepOf (68, [some (vR (some (22, 0, a0))), some (vI x1), some (vI x2), some (vI x3), none], [vI 0], (I, S)) r) : Ev d mX12_stepOf (67, [some (vR (some (22, 0, a0))), some (vI x1), some (vI x2), some (vI x3), none], [], (I, S)) r :=
  s_iconst rfl rfl <|
  k
theorem b_X12_stepOf_68 {d : Nat} {r : PO × PM} {I : Nat → Nat → Int} {S : PS} {a0 : Nat} {x1 x2 x3 xs0 z : Int} {I1 : Nat → Nat → Int} {S1 : PS} (c : Ca d mX12_isGood [vR (some (22, 0, a0))] (I, S) (.inl (some (vI z))) (I1, S1)) (k : Ev (d + 1) mX12_stepOf (74, [some (vR (some (22, 0, a0))), some (vI x1), some (vI x2), some (vI x3), some (vI xs0)], [vI z], (I1, S1)) r) : Ev (d + 1) mX12_stepOf (68, [some (vR (some (22, 0, a0))), some (vI x1), some (vI x2), some (vI x3), none], [vI xs0], (I, S)) r :=
  s_istore [some (vR (some (22, 0, a0))), some (vI x1), some (vI x2), some (vI x3), some (vI xs0)] rfl rfl <|
  s_aload_n rfl rfl rfl <|
  s_cvI rfl rfl rfl rfl rfl c k
theorem b_X12_stepOf_74 {d : Nat} {r : PO × PM} {I : Nat → Nat → Int} {S : PS} {a0 : Nat} {x1 x2 x3 x4 xs0 : Int} (kt : xs0 = 0 → Ev d mX12_stepOf (90, [some (vR (some (22, 0, a0))), some (vI x1), some (vI x2), some (vI x3), some (vI x4)], [], (I, S)) r) (kf : xs0 ≠ 0 → Ev d mX12_stepOf (77, [some (vR (some (22, 0, a0))), some (vI x1), some (vI x2), some (vI x3), some (vI x4)], [], (I, S)) r) : Ev d mX12_stepOf (74, [some (vR (some (22, 0, a0))), some (vI x1), some (vI x2), some (vI x3), some (vI x4)], [vI xs0], (I, S)) r :=
  s_if_eq 90 rfl rfl kt kf
theorem b_X12_stepOf_77 {d : Nat} {r : PO × PM} {I : Nat → Nat → Int} {S : PS} {a0 : Nat} {x1 x2 x3 x4 : Int} (kt : I a0 8 = 3 → Ev d mX12_stepOf (90, [some (vR (some (22, 0, a0))), some (vI x1), some (vI x2), some (vI x3), some (vI x4)], [], (I, S)) r) (kf : I a0 8 ≠ 3 → Ev d mX12_stepOf (85, [some (vR (some (22, 0, a0))), some (vI x1), some (vI x2), some (vI x3), some (vI x4)], [], (I, S)) r) : Ev d mX12_stepOf (77, [some (vR (some (22, 0, a0))), some (vI x1), some (vI x2), some (vI x3), some (vI x4)], [], (I, S)) r :=
  s_aload_n rfl rfl rfl <|
  s_getI rfl rfl rfl <|
  s_iconst rfl rfl <|
  s_icmp_eq 90 rfl rfl kt kf
theorem b_X12_stepOf_85 {d : Nat} {r : PO × PM} {I : Nat → Nat → Int} {S : PS} {a0 : Nat} {x1 x2 x3 x4 : Int} {I1 : Nat → Nat → Int} {S1 : PS} (c : Ca d mX12_wrong [vR (some (22, 0, a0)), vI 1] (I, S) (.inl none) (I1, S1)) (k : Ev (d + 1) mX12_stepOf (90, [some (vR (some (22, 0, a0))), some (vI x1), some (vI x2), some (vI x3), some (vI x4)], [], (I1, S1)) r) : Ev (d + 1) mX12_stepOf (85, [some (vR (some (22, 0, a0))), some (vI x1), some (vI x2), some (vI x3), some (vI x4)], [], (I, S)) r :=
  s_aload_n rfl rfl rfl <|
  s_iconst rfl rfl <|
  s_cvV rfl rfl rfl rfl rfl c k
theorem b_X12_stepOf_90 {d : Nat} {r : PO × PM} {I : Nat → Nat → Int} {S : PS} {a0 : Nat} {x1 x2 x3 x4 z : Int} {I1 : Nat → Nat → Int} {S1 : PS} (c : Ca d mX12_isGood [vR (some (22, 0, a0))] (I, S) (.inl (some (vI z))) (I1, S1)) (k : Ev (d + 1) mX12_stepOf (94, [some (vR (some (22, 0, a0))), some (vI x1), some (vI x2), some (vI x3), some (vI x4)], [vI z], (I1, S1)) r) : Ev (d + 1) mX12_stepOf (90, [some (vR (some (22, 0, a0))), some (vI x1), some (vI x2), some (vI x3), some (vI x4)], [], (I, S)) r :=
  s_aload_n rfl rfl rfl <|
  s_cvI rfl rfl rfl rfl rfl c k
theorem b_X12_stepOf_94 {d : Nat} {r : PO × PM} {I : Nat → Nat → Int} {S : PS} {a0 : Nat} {x1 x2 x3 x4 xs0 : Int} (kt : xs0 ≠ 0 → Ev d mX12_stepOf (98, [some (vR (some (22, 0, a0))), some (vI x1), some (vI x2), some (vI x3), some (vI x4)], [], (I, S)) r) (kf : xs0 = 0 → Ev d mX12_stepOf (97, [some (vR (some (22, 0, a0))), some (vI x1), some (vI x2), some (vI x3), some (vI x4)], [], (I, S)) r) : Ev d mX12_stepOf (94, [some (vR (some (22, 0, a0))), some (vI x1), some (vI x2), some (vI x3), some (vI x4)], [vI xs0], (I, S)) r :=
  s_if_ne 98 rfl rfl kt kf
theorem b_X12_stepOf_97 {d : Nat} {I : Nat → Nat → Int} {S : PS} {a0 : Nat} {x1 x2 x3 x4 : Int} : Ev d mX12_stepOf (97, [some (vR (some (22, 0, a0))), some (vI x1), some (vI x2), some (vI x3), some (vI x4)], [], (I, S)) (.inl none, (I, S)) :=
  s_vret rfl rfl
theorem b_X12_stepOf_98 {d : Nat} {r : PO × PM} {I : Nat → Nat → Int} {S : PS} {a0 : Nat} {x1 x2 x3 x4 z : Int} {I1 : Nat → Nat → Int} {S1 : PS} (c : Ca d mX12_isDone [vR (some (22, 0, a0)), vI x2, vI x3, vI x4] (I, S) (.inl (some (vI z))) (I1, S1)) (k : Ev (d + 1) mX12_stepOf (106, [some (vR (some (22, 0, a0))), some (vI x1), some (vI x2), some (vI x3), some (vI x4)], [vI z], (I1, S1)) r) : Ev (d + 1) mX12_stepOf (98, [some (vR (some (22, 0, a0))), some (vI x1), some (vI x2), some (vI x3), some (vI x4)], [], (I, S)) r :=
  s_aload_n rfl rfl rfl <|
  s_iload_n rfl rfl rfl <|
  s_iload_n rfl rfl rfl <|
  s_iload rfl rfl rfl <|
  s_cvI rfl rfl rfl rfl rfl c k
theorem b_X12_stepOf_106 {d : Nat} {r : PO × PM} {I : Nat → Nat → Int} {S : PS} {a0 : Nat} {x1 x2 x3 x4 xs0 : Int} (kt : xs0 ≠ 0 → Ev d mX12_stepOf (120, [some (vR (some (22, 0, a0))), some (vI x1), some (vI x2), some (vI x3), some (vI x4)], [], (I, S)) r) (kf : xs0 = 0 → Ev d mX12_stepOf (109, [some (vR (some (22, 0, a0))), some (vI x1), some (vI x2), some (vI x3), some (vI x4)], [], (I, S)) r) : Ev d mX12_stepOf (106, [some (vR (some (22, 0, a0))), some (vI x1), some (vI x2), some (vI x3), some (vI x4)], [vI xs0], (I, S)) r :=
  s_if_ne 120 rfl rfl kt kf
theorem b_X12_stepOf_109 {d : Nat} {I : Nat → Nat → Int} {S : PS} {a0 : Nat} {x1 x2 x3 x4 : Int} : Ev d mX12_stepOf (109, [some (vR (some (22, 0, a0))), some (vI x1), some (vI x2), some (vI x3), some (vI x4)], [], (I, S)) (.inl none, ((up2 (up2 I a0 3 1) a0 55 x1), S)) :=
  s_aload_n rfl rfl rfl <|
  s_iconst rfl rfl <|
  s_putI rfl rfl rfl <|
  s_aload_n rfl rfl rfl <|
  s_iload_n rfl rfl rfl <|
  s_putI rfl rfl rfl <|
  s_vret rfl rfl
theorem b_X12_stepOf_120 {d : Nat} {r : PO × PM} {I : Nat → Nat → Int} {S : PS} {a0 : Nat} {x1 x2 x3 x4 : Int} {I1 : Nat → Nat → Int} {S1 : PS} (ho1 : -2147483648 ≤ I a0 51 + 1 ∧ I a0 51 + 1 ≤ 2147483647) (c : Ca d mX12_goes [vR (some (22, 0, a0))] ((up2 I a0 51 (I a0 51 + 1)), S) (.inl none) (I1, S1)) (k : Ev (d + 1) mX12_stepOf (134, [some (vR (some (22, 0, a0))), some (vI x1), some (vI x2), some (vI x3), some (vI x4)], [], (I1, S1)) r) : Ev (d + 1) mX12_stepOf (120, [some (vR (some (22, 0, a0))), some (vI x1), some (vI x2), some (vI x3), some (vI x4)], [], (I, S)) r :=
  s_aload_n rfl rfl rfl <|
  s_dup rfl rfl <|
  s_getI rfl rfl rfl <|
  s_iconst rfl rfl <|
  s_iaddp rfl ho1 <|
  s_putI rfl rfl rfl <|
  s_aload_n rfl rfl rfl <|
  s_cvV rfl rfl rfl rfl rfl c k
theorem b_X12_stepOf_134 {d : Nat} {I : Nat → Nat → Int} {S : PS} {a0 : Nat} {x1 x2 x3 x4 : Int} : Ev d mX12_stepOf (134, [some (vR (some (22, 0, a0))), some (vI x1), some (vI x2), some (vI x3), some (vI x4)], [], (I, S)) (.inl none, (I, S)) :=
  s_vret rfl rfl
theorem b_X12_plan_0 {d : Nat} {r : PO × PM} {I : Nat → Nat → Int} {S : PS} {a0 : Nat} {x1 : Int} (kt : x1 < 0 → Ev d mX12_plan (22, [some (vR (some (22, 0, a0))), some (vI x1), none], [vR (some (22, 0, a0))], ((up2 I a0 0 0), S)) r) (kf : 0 ≤ x1 → Ev d mX12_plan (10, [some (vR (some (22, 0, a0))), some (vI x1), none], [vR (some (22, 0, a0))], ((up2 I a0 0 0), S)) r) : Ev d mX12_plan (0, [some (vR (some (22, 0, a0))), some (vI x1), none], [], (I, S)) r :=
  s_aload_n rfl rfl rfl <|
  s_iconst rfl rfl <|
  s_putI rfl rfl rfl <|
  s_aload_n rfl rfl rfl <|
  s_iload_n rfl rfl rfl <|
  s_if_lt 22 rfl rfl kt kf
theorem b_X12_plan_10 {d : Nat} {r : PO × PM} {I : Nat → Nat → Int} {S : PS} {a0 as0 : Nat} {x1 : Int} (kt : I a0 2 < x1 → Ev d mX12_plan (22, [some (vR (some (22, 0, a0))), some (vI x1), none], [vR (some (22, 0, as0))], (I, S)) r) (kf : x1 ≤ I a0 2 → Ev d mX12_plan (18, [some (vR (some (22, 0, a0))), some (vI x1), none], [vR (some (22, 0, as0))], (I, S)) r) : Ev d mX12_plan (10, [some (vR (some (22, 0, a0))), some (vI x1), none], [vR (some (22, 0, as0))], (I, S)) r :=
  s_iload_n rfl rfl rfl <|
  s_aload_n rfl rfl rfl <|
  s_getI rfl rfl rfl <|
  s_icmp_gt 22 rfl rfl kt kf
theorem b_X12_plan_18 {d : Nat} {r : PO × PM} {I : Nat → Nat → Int} {S : PS} {a0 as0 : Nat} {x1 : Int} (k : Ev d mX12_plan (23, [some (vR (some (22, 0, a0))), some (vI x1), none], [vI 1, vR (some (22, 0, as0))], (I, S)) r) : Ev d mX12_plan (18, [some (vR (some (22, 0, a0))), some (vI x1), none], [vR (some (22, 0, as0))], (I, S)) r :=
  s_iconst rfl rfl <|
  s_goto 23 rfl rfl k
theorem b_X12_plan_22 {d : Nat} {r : PO × PM} {I : Nat → Nat → Int} {S : PS} {a0 as0 : Nat} {x1 : Int} (k : Ev d mX12_plan (23, [some (vR (some (22, 0, a0))), some (vI x1), none], [vI 0, vR (some (22, 0, as0))], (I, S)) r) : Ev d mX12_plan (22, [some (vR (some (22, 0, a0))), some (vI x1), none], [vR (some (22, 0, as0))], (I, S)) r :=
  s_iconst rfl rfl <|
  k
theorem b_X12_plan_23 {d : Nat} {r : PO × PM} {I : Nat → Nat → Int} {S : PS} {a0 as0 : Nat} {x1 xs1 z : Int} {I1 : Nat → Nat → Int} {S1 : PS} (c : Ca d mX12_right [vR (some (22, 0, as0)), vI xs1, vI 1] (I, S) (.inl (some (vI z))) (I1, S1)) (k : Ev (d + 1) mX12_plan (27, [some (vR (some (22, 0, a0))), some (vI x1), none], [vI z], (I1, S1)) r) : Ev (d + 1) mX12_plan (23, [some (vR (some (22, 0, a0))), some (vI x1), none], [vI xs1, vR (some (22, 0, as0))], (I, S)) r :=
  s_iconst rfl rfl <|
  s_cvI rfl rfl rfl rfl rfl c k
theorem b_X12_plan_27 {d : Nat} {r : PO × PM} {I : Nat → Nat → Int} {S : PS} {a0 : Nat} {x1 xs0 : Int} (kt : xs0 ≠ 0 → Ev d mX12_plan (32, [some (vR (some (22, 0, a0))), some (vI x1), none], [], (I, S)) r) (kf : xs0 = 0 → Ev d mX12_plan (30, [some (vR (some (22, 0, a0))), some (vI x1), none], [], (I, S)) r) : Ev d mX12_plan (27, [some (vR (some (22, 0, a0))), some (vI x1), none], [vI xs0], (I, S)) r :=
  s_if_ne 32 rfl rfl kt kf
theorem b_X12_plan_30 {d : Nat} {I : Nat → Nat → Int} {S : PS} {a0 : Nat} {x1 : Int} : Ev d mX12_plan (30, [some (vR (some (22, 0, a0))), some (vI x1), none], [], (I, S)) (.inl (some (vI 0)), (I, S)) :=
  s_iconst rfl rfl <|
  s_ret rfl rfl
theorem b_X12_plan_32 {d : Nat} {r : PO × PM} {I : Nat → Nat → Int} {S : PS} {a0 p1 q1 : Nat} {x1 : Int} {I1 : Nat → Nat → Int} {S1 : PS} (hr1 : S.1 a0 54 = some (0, q1, p1)) (hi2 : 2 < q1) (hi3 : 3 < q1) (c : Ca d mX12_tries [vR (some (22, 0, a0))] ((up2 (up2 (up2 (up2 (up2 (up2 (up2 (up2 (up2 (up2 I a0 2 0) a0 3 0) a0 4 (-1)) a0 55 (-1)) a0 6 x1) a0 7 0) a0 51 0) a0 50 0) p1 2 0) p1 3 0), S) (.inl none) (I1, S1)) (k : Ev (d + 1) mX12_plan (95, [some (vR (some (22, 0, a0))), some (vI x1), some (vI (I a0 4))], [], (I1, S1)) r) : Ev (d + 1) mX12_plan (32, [some (vR (some (22, 0, a0))), some (vI x1), none], [], (I, S)) r :=
  s_aload_n rfl rfl rfl <|
  s_getI rfl rfl rfl <|
  s_istore_n [some (vR (some (22, 0, a0))), some (vI x1), some (vI (I a0 4))] rfl rfl <|
  s_aload_n rfl rfl rfl <|
  s_iconst rfl rfl <|
  s_putI rfl rfl rfl <|
  s_aload_n rfl rfl rfl <|
  s_iconst rfl rfl <|
  s_putI rfl rfl rfl <|
  s_aload_n rfl rfl rfl <|
  s_iconst rfl rfl <|
  s_putI rfl rfl rfl <|
  s_aload_n rfl rfl rfl <|
  s_iconst rfl rfl <|
  s_putI rfl rfl rfl <|
  s_aload_n rfl rfl rfl <|
  s_iload_n rfl rfl rfl <|
  s_putI rfl rfl rfl <|
  s_aload_n rfl rfl rfl <|
  s_iconst rfl rfl <|
  s_putI rfl rfl rfl <|
  s_aload_n rfl rfl rfl <|
  s_iconst rfl rfl <|
  s_putI rfl rfl rfl <|
  s_aload_n rfl rfl rfl <|
  s_iconst rfl rfl <|
  s_putI rfl rfl rfl <|
  s_aload_n rfl rfl rfl <|
  s_getR rfl rfl rfl hr1 <|
  s_iconst rfl rfl <|
  s_iconst rfl rfl <|
  s_iast rfl (p_lit (k := 2) hi2) <|
  s_aload_n rfl rfl rfl <|
  s_getR rfl rfl rfl hr1 <|
  s_iconst rfl rfl <|
  s_iconst rfl rfl <|
  s_iast rfl (p_lit (k := 3) hi3) <|
  s_aload_n rfl rfl rfl <|
  s_cvV rfl rfl rfl rfl rfl c k
theorem b_X12_plan_95 {d : Nat} {r : PO × PM} {I : Nat → Nat → Int} {S : PS} {a0 : Nat} {x1 x2 : Int} {I1 : Nat → Nat → Int} {S1 : PS} (c : Ca d mX12_laysSheet [vR (some (22, 0, a0))] (I, S) (.inl none) (I1, S1)) (k : Ev (d + 1) mX12_plan (99, [some (vR (some (22, 0, a0))), some (vI x1), some (vI x2)], [], (I1, S1)) r) : Ev (d + 1) mX12_plan (95, [some (vR (some (22, 0, a0))), some (vI x1), some (vI x2)], [], (I, S)) r :=
  s_aload_n rfl rfl rfl <|
  s_cvV rfl rfl rfl rfl rfl c k
theorem b_X12_plan_99 {d : Nat} {r : PO × PM} {I : Nat → Nat → Int} {S : PS} {a0 : Nat} {x1 x2 : Int} {I1 : Nat → Nat → Int} {S1 : PS} (c : Ca d mX12_goes [vR (some (22, 0, a0))] (I, S) (.inl none) (I1, S1)) (k : Ev (d + 1) mX12_plan (103, [some (vR (some (22, 0, a0))), some (vI x1), some (vI x2)], [], (I1, S1)) r) : Ev (d + 1) mX12_plan (99, [some (vR (some (22, 0, a0))), some (vI x1), some (vI x2)], [], (I, S)) r :=
  s_aload_n rfl rfl rfl <|
  s_cvV rfl rfl rfl rfl rfl c k
theorem b_X12_plan_103 {d : Nat} {r : PO × PM} {I : Nat → Nat → Int} {S : PS} {a0 : Nat} {x1 x2 z : Int} {I1 : Nat → Nat → Int} {S1 : PS} (c : Ca d mX12_isGood [vR (some (22, 0, a0))] (I, S) (.inl (some (vI z))) (I1, S1)) (k : Ev (d + 1) mX12_plan (107, [some (vR (some (22, 0, a0))), some (vI x1), some (vI x2)], [vI z], (I1, S1)) r) : Ev (d + 1) mX12_plan (103, [some (vR (some (22, 0, a0))), some (vI x1), some (vI x2)], [], (I, S)) r :=
  s_aload_n rfl rfl rfl <|
  s_cvI rfl rfl rfl rfl rfl c k
theorem b_X12_plan_107 {d : Nat} {r : PO × PM} {I : Nat → Nat → Int} {S : PS} {a0 : Nat} {x1 x2 xs0 : Int} (kt : xs0 = 0 → Ev d mX12_plan (124, [some (vR (some (22, 0, a0))), some (vI x1), some (vI x2)], [], (I, S)) r) (kf : xs0 ≠ 0 → Ev d mX12_plan (110, [some (vR (some (22, 0, a0))), some (vI x1), some (vI x2)], [], (I, S)) r) : Ev d mX12_plan (107, [some (vR (some (22, 0, a0))), some (vI x1), some (vI x2)], [vI xs0], (I, S)) r :=
  s_if_eq 124 rfl rfl kt kf
theorem b_X12_plan_110 {d : Nat} {r : PO × PM} {I : Nat → Nat → Int} {S : PS} {a0 : Nat} {x1 x2 : Int} (kt : I a0 8 = 0 → Ev d mX12_plan (124, [some (vR (some (22, 0, a0))), some (vI x1), some (vI x2)], [], (I, S)) r) (kf : I a0 8 ≠ 0 → Ev d mX12_plan (117, [some (vR (some (22, 0, a0))), some (vI x1), some (vI x2)], [], (I, S)) r) : Ev d mX12_plan (110, [some (vR (some (22, 0, a0))), some (vI x1), some (vI x2)], [], (I, S)) r :=
  s_aload_n rfl rfl rfl <|
  s_getI rfl rfl rfl <|
  s_if_eq 124 rfl rfl kt kf
theorem b_X12_plan_117 {d : Nat} {r : PO × PM} {I : Nat → Nat → Int} {S : PS} {a0 : Nat} {x1 x2 : Int} {I1 : Nat → Nat → Int} {S1 : PS} (c : Ca d mX12_stepOf [vR (some (22, 0, a0))] (I, S) (.inl none) (I1, S1)) (k : Ev (d + 1) mX12_plan (121, [some (vR (some (22, 0, a0))), some (vI x1), some (vI x2)], [], (I1, S1)) r) : Ev (d + 1) mX12_plan (117, [some (vR (some (22, 0, a0))), some (vI x1), some (vI x2)], [], (I, S)) r :=
  s_aload_n rfl rfl rfl <|
  s_cvV rfl rfl rfl rfl rfl c k
theorem b_X12_plan_121 {d : Nat} {r : PO × PM} {I : Nat → Nat → Int} {S : PS} {a0 : Nat} {x1 x2 : Int} (k : Ev d mX12_plan (103, [some (vR (some (22, 0, a0))), some (vI x1), some (vI x2)], [], (I, S)) r) : Ev d mX12_plan (121, [some (vR (some (22, 0, a0))), some (vI x1), some (vI x2)], [], (I, S)) r :=
  s_goto 103 rfl rfl k
theorem b_X12_plan_124 {d : Nat} {r : PO × PM} {I : Nat → Nat → Int} {S : PS} {a0 p1 q1 : Nat} {x1 x2 : Int} (hr1 : S.1 a0 54 = some (0, q1, p1)) (kt : I a0 55 = (-1) → Ev d mX12_plan (144, [some (vR (some (22, 0, a0))), some (vI x1), some (vI x2)], [vI 0, vR (some (0, q1, p1))], (I, S)) r) (kf : I a0 55 ≠ (-1) → Ev d mX12_plan (137, [some (vR (some (22, 0, a0))), some (vI x1), some (vI x2)], [vI 0, vR (some (0, q1, p1))], (I, S)) r) : Ev d mX12_plan (124, [some (vR (some (22, 0, a0))), some (vI x1), some (vI x2)], [], (I, S)) r :=
  s_aload_n rfl rfl rfl <|
  s_getR rfl rfl rfl hr1 <|
  s_iconst rfl rfl <|
  s_aload_n rfl rfl rfl <|
  s_getI rfl rfl rfl <|
  s_iconst rfl rfl <|
  s_icmp_eq 144 rfl rfl kt kf
theorem b_X12_plan_137 {d : Nat} {r : PO × PM} {I : Nat → Nat → Int} {S : PS} {a0 ns0 as0 : Nat} {x1 x2 xs1 : Int} (k : Ev d mX12_plan (148, [some (vR (some (22, 0, a0))), some (vI x1), some (vI x2)], [vI (I a0 55), vI xs1, vR (some (0, ns0, as0))], (I, S)) r) : Ev d mX12_plan (137, [some (vR (some (22, 0, a0))), some (vI x1), some (vI x2)], [vI xs1, vR (some (0, ns0, as0))], (I, S)) r :=
  s_aload_n rfl rfl rfl <|
  s_getI rfl rfl rfl <|
  s_goto 148 rfl rfl k
theorem b_X12_plan_144 {d : Nat} {r : PO × PM} {I : Nat → Nat → Int} {S : PS} {a0 ns0 as0 : Nat} {x1 x2 xs1 : Int} (k : Ev d mX12_plan (148, [some (vR (some (22, 0, a0))), some (vI x1), some (vI x2)], [vI (I a0 4), vI xs1, vR (some (0, ns0, as0))], (I, S)) r) : Ev d mX12_plan (144, [some (vR (some (22, 0, a0))), some (vI x1), some (vI x2)], [vI xs1, vR (some (0, ns0, as0))], (I, S)) r :=
  s_aload_n rfl rfl rfl <|
  s_getI rfl rfl rfl <|
  k
theorem b_X12_plan_148 {d : Nat} {r : PO × PM} {I : Nat → Nat → Int} {S : PS} {a0 ns0 as0 p2 q2 : Nat} {x1 x2 xs1 xs2 z : Int} {I1 : Nat → Nat → Int} {S1 : PS} (hi1 : 0 ≤ xs1 ∧ xs1 < (ns0 : Nat)) (hr2 : S.1 a0 54 = some (0, q2, p2)) (c : Ca d mX12_painted [vR (some (22, 0, a0)), vI 18] ((up2 I as0 (xs1.toNat) xs2), S) (.inl (some (vI z))) (I1, S1)) (k : Ev (d + 1) mX12_plan (160, [some (vR (some (22, 0, a0))), some (vI x1), some (vI x2)], [vI z, vI 1, vR (some (0, q2, p2))], (I1, S1)) r) : Ev (d + 1) mX12_plan (148, [some (vR (some (22, 0, a0))), some (vI x1), some (vI x2)], [vI xs2, vI xs1, vR (some (0, ns0, as0))], (I, S)) r :=
  s_iast rfl hi1 <|
  s_aload_n rfl rfl rfl <|
  s_getR rfl rfl rfl hr2 <|
  s_iconst rfl rfl <|
  s_aload_n rfl rfl rfl <|
  s_bipush rfl rfl <|
  s_cvI rfl rfl rfl rfl rfl c k
theorem b_X12_plan_160 {d : Nat} {r : PO × PM} {I : Nat → Nat → Int} {S : PS} {a0 ns0 as0 : Nat} {x1 x2 xs1 xs2 : Int} (hi1 : 0 ≤ xs1 ∧ xs1 < (ns0 : Nat)) (k : Ev d mX12_plan (161, [some (vR (some (22, 0, a0))), some (vI x1), some (vI x2)], [], ((up2 I as0 (xs1.toNat) xs2), S)) r) : Ev d mX12_plan (160, [some (vR (some (22, 0, a0))), some (vI x1), some (vI x2)], [vI xs2, vI xs1, vR (some (0, ns0, as0))], (I, S)) r :=
  s_iast rfl hi1 <|
  k
theorem b_X12_plan_161 {d : Nat} {r : PO × PM} {I : Nat → Nat → Int} {S : PS} {a0 : Nat} {x1 x2 : Int} (kt : I a0 50 ≤ 0 → Ev d mX12_plan (198, [some (vR (some (22, 0, a0))), some (vI x1), some (vI x2)], [], (I, S)) r) (kf : 0 < I a0 50 → Ev d mX12_plan (168, [some (vR (some (22, 0, a0))), some (vI x1), some (vI x2)], [], (I, S)) r) : Ev d mX12_plan (161, [some (vR (some (22, 0, a0))), some (vI x1), some (vI x2)], [], (I, S)) r :=
  s_aload_n rfl rfl rfl <|
  s_getI rfl rfl rfl <|
  s_if_le 198 rfl rfl kt kf
theorem b_X12_plan_168 {d : Nat} {r : PO × PM} {I : Nat → Nat → Int} {S : PS} {a0 : Nat} {x1 x2 : Int} {I1 : Nat → Nat → Int} {S1 : PS} (c : Ca d mX12_takesOff [vR (some (22, 0, a0))] (I, S) (.inl none) (I1, S1)) (k : Ev (d + 1) mX12_plan (172, [some (vR (some (22, 0, a0))), some (vI x1), some (vI x2)], [], (I1, S1)) r) : Ev (d + 1) mX12_plan (168, [some (vR (some (22, 0, a0))), some (vI x1), some (vI x2)], [], (I, S)) r :=
  s_aload_n rfl rfl rfl <|
  s_cvV rfl rfl rfl rfl rfl c k
theorem b_X12_plan_172 {d : Nat} {r : PO × PM} {I : Nat → Nat → Int} {S : PS} {a0 p1 q1 : Nat} {x1 x2 : Int} (hr1 : S.1 a0 54 = some (0, q1, p1)) (hi2 : 3 < q1) (ho3 : -2147483648 ≤ 10 * (I p1 3) ∧ 10 * (I p1 3) ≤ 2147483647) (hd4 : (0 ≤ I a0 49 ∧ I a0 49 ≤ 2147483647) ∧ 0 < (10 : Int) ∧ (10 : Int) ≤ 2147483647) (ho5 : -2147483648 ≤ (10 * (I p1 3)) + ((I a0 49) % 10) ∧ (10 * (I p1 3)) + ((I a0 49) % 10) ≤ 2147483647) (hi6 : 3 < q1) (k : Ev d mX12_plan (161, [some (vR (some (22, 0, a0))), some (vI x1), some (vI x2)], [], ((up2 I p1 3 ((10 * (I p1 3)) + ((I a0 49) % 10))), S)) r) : Ev d mX12_plan (172, [some (vR (some (22, 0, a0))), some (vI x1), some (vI x2)], [], (I, S)) r :=
  s_aload_n rfl rfl rfl <|
  s_getR rfl rfl rfl hr1 <|
  s_iconst rfl rfl <|
  s_bipush rfl rfl <|
  s_aload_n rfl rfl rfl <|
  s_getR rfl rfl rfl hr1 <|
  s_iconst rfl rfl <|
  s_iald rfl rfl (p_lit (k := 3) hi2) <|
  s_imulp rfl ho3 <|
  s_aload_n rfl rfl rfl <|
  s_getI rfl rfl rfl <|
  s_bipush rfl rfl <|
  s_iremp rfl hd4 <|
  s_iaddp rfl ho5 <|
  s_iast rfl (p_lit (k := 3) hi6) <|
  s_goto 161 rfl rfl k
theorem b_X12_plan_198 {d : Nat} {I : Nat → Nat → Int} {S : PS} {a0 : Nat} {x1 x2 : Int} : Ev d mX12_plan (198, [some (vR (some (22, 0, a0))), some (vI x1), some (vI x2)], [], (I, S)) (.inl (some (vI ((up2 (up2 I a0 4 x2) a0 47 1) a0 51))), ((up2 (up2 I a0 4 x2) a0 47 1), S)) :=
  s_aload_n rfl rfl rfl <|
  s_iload_n rfl rfl rfl <|
  s_putI rfl rfl rfl <|
  s_aload_n rfl rfl rfl <|
  s_iconst rfl rfl <|
  s_putZ rfl rfl rfl (Or.inr rfl) <|
  s_aload_n rfl rfl rfl <|
  s_getI rfl rfl rfl <|
  s_ret rfl rfl
theorem b_X12_planned_0 {d : Nat} {r : PO × PM} {I : Nat → Nat → Int} {S : PS} {a0 : Nat} {x1 z : Int} {I1 : Nat → Nat → Int} {S1 : PS} (c : Ca d mX12_isWhat [vR (some (22, 0, a0)), vI x1, vI 3] ((up2 I a0 0 0), S) (.inl (some (vI z))) (I1, S1)) (k : Ev (d + 1) mX12_planned (11, [some (vR (some (22, 0, a0))), some (vI x1)], [vI z], (I1, S1)) r) : Ev (d + 1) mX12_planned (0, [some (vR (some (22, 0, a0))), some (vI x1)], [], (I, S)) r :=
  s_aload_n rfl rfl rfl <|
  s_iconst rfl rfl <|
  s_putI rfl rfl rfl <|
  s_aload_n rfl rfl rfl <|
  s_iload_n rfl rfl rfl <|
  s_iconst rfl rfl <|
  s_cvI rfl rfl rfl rfl rfl c k
theorem b_X12_planned_11 {d : Nat} {r : PO × PM} {I : Nat → Nat → Int} {S : PS} {a0 : Nat} {x1 xs0 : Int} (kt : xs0 ≠ 0 → Ev d mX12_planned (16, [some (vR (some (22, 0, a0))), some (vI x1)], [], (I, S)) r) (kf : xs0 = 0 → Ev d mX12_planned (14, [some (vR (some (22, 0, a0))), some (vI x1)], [], (I, S)) r) : Ev d mX12_planned (11, [some (vR (some (22, 0, a0))), some (vI x1)], [vI xs0], (I, S)) r :=
  s_if_ne 16 rfl rfl kt kf
theorem b_X12_planned_14 {d : Nat} {I : Nat → Nat → Int} {S : PS} {a0 : Nat} {x1 : Int} : Ev d mX12_planned (14, [some (vR (some (22, 0, a0))), some (vI x1)], [], (I, S)) (.inl (some (vI 0)), (I, S)) :=
  s_iconst rfl rfl <|
  s_ret rfl rfl
theorem b_X12_planned_16 {d : Nat} {r : PO × PM} {I : Nat → Nat → Int} {S : PS} {a0 : Nat} {x1 : Int} (kt : I a0 47 = 0 → Ev d mX12_planned (32, [some (vR (some (22, 0, a0))), some (vI x1)], [], (I, S)) r) (kf : I a0 47 ≠ 0 → Ev d mX12_planned (23, [some (vR (some (22, 0, a0))), some (vI x1)], [], (I, S)) r) : Ev d mX12_planned (16, [some (vR (some (22, 0, a0))), some (vI x1)], [], (I, S)) r :=
  s_aload_n rfl rfl rfl <|
  s_getI rfl rfl rfl <|
  s_if_eq 32 rfl rfl kt kf
theorem b_X12_planned_23 {d : Nat} {r : PO × PM} {I : Nat → Nat → Int} {S : PS} {a0 p1 q1 : Nat} {x1 : Int} (hr1 : S.1 a0 54 = some (0, q1, p1)) (hi2 : 0 ≤ x1 ∧ x1 < (q1 : Nat)) (k : Ev d mX12_planned (33, [some (vR (some (22, 0, a0))), some (vI x1)], [vI (I p1 x1.toNat)], (I, S)) r) : Ev d mX12_planned (23, [some (vR (some (22, 0, a0))), some (vI x1)], [], (I, S)) r :=
  s_aload_n rfl rfl rfl <|
  s_getR rfl rfl rfl hr1 <|
  s_iload_n rfl rfl rfl <|
  s_iald rfl rfl hi2 <|
  s_goto 33 rfl rfl k
theorem b_X12_planned_32 {d : Nat} {r : PO × PM} {I : Nat → Nat → Int} {S : PS} {a0 : Nat} {x1 : Int} (k : Ev d mX12_planned (33, [some (vR (some (22, 0, a0))), some (vI x1)], [vI (-1)], (I, S)) r) : Ev d mX12_planned (32, [some (vR (some (22, 0, a0))), some (vI x1)], [], (I, S)) r :=
  s_iconst rfl rfl <|
  k
theorem b_X12_planned_33 {d : Nat} {I : Nat → Nat → Int} {S : PS} {a0 : Nat} {x1 xs0 : Int} : Ev d mX12_planned (33, [some (vR (some (22, 0, a0))), some (vI x1)], [vI xs0], (I, S)) (.inl (some (vI xs0)), (I, S)) :=
  s_ret rfl rfl
theorem b_X12_note_0 {d : Nat} {r : PO × PM} {I : Nat → Nat → Int} {S : PS} {a0 : Nat} {x1 x2 z : Int} {I1 : Nat → Nat → Int} {S1 : PS} (c : Ca d mX12_isSpot [vR (some (22, 0, a0)), vI x1] ((up2 I a0 0 0), S) (.inl (some (vI z))) (I1, S1)) (k : Ev (d + 1) mX12_note (10, [some (vR (some (22, 0, a0))), some (vI x1), some (vI x2)], [vI z], (I1, S1)) r) : Ev (d + 1) mX12_note (0, [some (vR (some (22, 0, a0))), some (vI x1), some (vI x2)], [], (I, S)) r :=
  s_aload_n rfl rfl rfl <|
  s_iconst rfl rfl <|
  s_putI rfl rfl rfl <|
  s_aload_n rfl rfl rfl <|
  s_iload_n rfl rfl rfl <|
  s_cvI rfl rfl rfl rfl rfl c k
theorem b_X12_note_10 {d : Nat} {r : PO × PM} {I : Nat → Nat → Int} {S : PS} {a0 : Nat} {x1 x2 xs0 : Int} (kt : xs0 ≠ 0 → Ev d mX12_note (15, [some (vR (some (22, 0, a0))), some (vI x1), some (vI x2)], [], (I, S)) r) (kf : xs0 = 0 → Ev d mX12_note (13, [some (vR (some (22, 0, a0))), some (vI x1), some (vI x2)], [], (I, S)) r) : Ev d mX12_note (10, [some (vR (some (22, 0, a0))), some (vI x1), some (vI x2)], [vI xs0], (I, S)) r :=
  s_if_ne 15 rfl rfl kt kf
theorem b_X12_note_13 {d : Nat} {I : Nat → Nat → Int} {S : PS} {a0 : Nat} {x1 x2 : Int} : Ev d mX12_note (13, [some (vR (some (22, 0, a0))), some (vI x1), some (vI x2)], [], (I, S)) (.inl (some (vI 0)), (I, S)) :=
  s_iconst rfl rfl <|
  s_ret rfl rfl
theorem b_X12_note_15 {d : Nat} {r : PO × PM} {I : Nat → Nat → Int} {S : PS} {a0 : Nat} {x1 x2 : Int} (kt : I a0 56 = 8 → Ev d mX12_note (37, [some (vR (some (22, 0, a0))), some (vI x1), some (vI x2)], [], (I, S)) r) (kf : I a0 56 ≠ 8 → Ev d mX12_note (24, [some (vR (some (22, 0, a0))), some (vI x1), some (vI x2)], [], (I, S)) r) : Ev d mX12_note (15, [some (vR (some (22, 0, a0))), some (vI x1), some (vI x2)], [], (I, S)) r :=
  s_aload_n rfl rfl rfl <|
  s_getI rfl rfl rfl <|
  s_bipush rfl rfl <|
  s_icmp_eq 37 rfl rfl kt kf
theorem b_X12_note_24 {d : Nat} {r : PO × PM} {I : Nat → Nat → Int} {S : PS} {a0 : Nat} {x1 x2 z : Int} {I1 : Nat → Nat → Int} {S1 : PS} (c : Ca d mX12_within [vI x2, vI (-999), vI 999] (I, S) (.inl (some (vI z))) (I1, S1)) (k : Ev (d + 1) mX12_note (34, [some (vR (some (22, 0, a0))), some (vI x1), some (vI x2)], [vI z], (I1, S1)) r) : Ev (d + 1) mX12_note (24, [some (vR (some (22, 0, a0))), some (vI x1), some (vI x2)], [], (I, S)) r :=
  s_iload_n rfl rfl rfl <|
  s_sipush rfl rfl <|
  s_sipush rfl rfl <|
  s_csI rfl rfl rfl rfl rfl rfl c k
theorem b_X12_note_34 {d : Nat} {r : PO × PM} {I : Nat → Nat → Int} {S : PS} {a0 : Nat} {x1 x2 xs0 : Int} (kt : xs0 ≠ 0 → Ev d mX12_note (43, [some (vR (some (22, 0, a0))), some (vI x1), some (vI x2)], [], (I, S)) r) (kf : xs0 = 0 → Ev d mX12_note (37, [some (vR (some (22, 0, a0))), some (vI x1), some (vI x2)], [], (I, S)) r) : Ev d mX12_note (34, [some (vR (some (22, 0, a0))), some (vI x1), some (vI x2)], [vI xs0], (I, S)) r :=
  s_if_ne 43 rfl rfl kt kf
theorem b_X12_note_37 {d : Nat} {r : PO × PM} {I : Nat → Nat → Int} {S : PS} {a0 : Nat} {x1 x2 z : Int} {I1 : Nat → Nat → Int} {S1 : PS} (c : Ca d mX12_refuses [vR (some (22, 0, a0)), vI 2] (I, S) (.inl (some (vI z))) (I1, S1)) (k : Ev (d + 1) mX12_note (42, [some (vR (some (22, 0, a0))), some (vI x1), some (vI x2)], [vI z], (I1, S1)) r) : Ev (d + 1) mX12_note (37, [some (vR (some (22, 0, a0))), some (vI x1), some (vI x2)], [], (I, S)) r :=
  s_aload_n rfl rfl rfl <|
  s_iconst rfl rfl <|
  s_cvI rfl rfl rfl rfl rfl c k
theorem b_X12_note_42 {d : Nat} {I : Nat → Nat → Int} {S : PS} {a0 : Nat} {x1 x2 xs0 : Int} : Ev d mX12_note (42, [some (vR (some (22, 0, a0))), some (vI x1), some (vI x2)], [vI xs0], (I, S)) (.inl (some (vI xs0)), (I, S)) :=
  s_ret rfl rfl
theorem b_X12_note_43 {d : Nat} {I : Nat → Nat → Int} {S : PS} {a0 p1 q1 : Nat} {x1 x2 : Int} (hr1 : S.1 a0 57 = some (0, q1, p1)) (ho2 : -2147483648 ≤ 2 * (I a0 56) ∧ 2 * (I a0 56) ≤ 2147483647) (hi3 : 0 ≤ 2 * (I a0 56) ∧ 2 * (I a0 56) < (q1 : Nat)) (ho4 : -2147483648 ≤ 2 * ((up2 I p1 ((2 * (I a0 56)).toNat) x1) a0 56) ∧ 2 * ((up2 I p1 ((2 * (I a0 56)).toNat) x1) a0 56) ≤ 2147483647) (ho5 : -2147483648 ≤ (2 * ((up2 I p1 ((2 * (I a0 56)).toNat) x1) a0 56)) + 1 ∧ (2 * ((up2 I p1 ((2 * (I a0 56)).toNat) x1) a0 56)) + 1 ≤ 2147483647) (hi6 : 0 ≤ (2 * ((up2 I p1 ((2 * (I a0 56)).toNat) x1) a0 56)) + 1 ∧ (2 * ((up2 I p1 ((2 * (I a0 56)).toNat) x1) a0 56)) + 1 < (q1 : Nat)) (ho7 : -2147483648 ≤ ((up2 (up2 I p1 ((2 * (I a0 56)).toNat) x1) p1 (((2 * ((up2 I p1 ((2 * (I a0 56)).toNat) x1) a0 56)) + 1).toNat) x2) a0 56) + 1 ∧ ((up2 (up2 I p1 ((2 * (I a0 56)).toNat) x1) p1 (((2 * ((up2 I p1 ((2 * (I a0 56)).toNat) x1) a0 56)) + 1).toNat) x2) a0 56) + 1 ≤ 2147483647) : Ev d mX12_note (43, [some (vR (some (22, 0, a0))), some (vI x1), some (vI x2)], [], (I, S)) (.inl (some (vI ((up2 (up2 (up2 I p1 ((2 * (I a0 56)).toNat) x1) p1 (((2 * ((up2 I p1 ((2 * (I a0 56)).toNat) x1) a0 56)) + 1).toNat) x2) a0 56 (((up2 (up2 I p1 ((2 * (I a0 56)).toNat) x1) p1 (((2 * ((up2 I p1 ((2 * (I a0 56)).toNat) x1) a0 56)) + 1).toNat) x2) a0 56) + 1)) a0 56))), ((up2 (up2 (up2 I p1 ((2 * (I a0 56)).toNat) x1) p1 (((2 * ((up2 I p1 ((2 * (I a0 56)).toNat) x1) a0 56)) + 1).toNat) x2) a0 56 (((up2 (up2 I p1 ((2 * (I a0 56)).toNat) x1) p1 (((2 * ((up2 I p1 ((2 * (I a0 56)).toNat) x1) a0 56)) + 1).toNat) x2) a0 56) + 1)), S)) :=
  s_aload_n rfl rfl rfl <|
  s_getR rfl rfl rfl hr1 <|
  s_iconst rfl rfl <|
  s_aload_n rfl rfl rfl <|
  s_getI rfl rfl rfl <|
  s_imulp rfl ho2 <|
  s_iload_n rfl rfl rfl <|
  s_iast rfl hi3 <|
  s_aload_n rfl rfl rfl <|
  s_getR rfl rfl rfl hr1 <|
  s_iconst rfl rfl <|
  s_aload_n rfl rfl rfl <|
  s_getI rfl rfl rfl <|
  s_imulp rfl ho4 <|
  s_iconst rfl rfl <|
  s_iaddp rfl ho5 <|
  s_iload_n rfl rfl rfl <|
  s_iast rfl hi6 <|
  s_aload_n rfl rfl rfl <|
  s_dup rfl rfl <|
  s_getI rfl rfl rfl <|
  s_iconst rfl rfl <|
  s_iaddp rfl ho7 <|
  s_putI rfl rfl rfl <|
  s_aload_n rfl rfl rfl <|
  s_getI rfl rfl rfl <|
  s_ret rfl rfl
theorem b_X12_forget_0 {d : Nat} {I : Nat → Nat → Int} {S : PS} {a0 : Nat} : Ev d mX12_forget (0, [some (vR (some (22, 0, a0)))], [], (I, S)) (.inl none, ((up2 (up2 I a0 0 0) a0 56 0), S)) :=
  s_aload_n rfl rfl rfl <|
  s_iconst rfl rfl <|
  s_putI rfl rfl rfl <|
  s_aload_n rfl rfl rfl <|
  s_iconst rfl rfl <|
  s_putI rfl rfl rfl <|
  s_vret rfl rfl
theorem b_X12_isNoted_0 {d : Nat} {r : PO × PM} {I : Nat → Nat → Int} {S : PS} {a0 : Nat} (k : Ev d mX12_isNoted (2, [some (vR (some (22, 0, a0))), some (vI 0)], [], (I, S)) r) : Ev d mX12_isNoted (0, [some (vR (some (22, 0, a0))), none], [], (I, S)) r :=
  s_iconst rfl rfl <|
  s_istore_n [some (vR (some (22, 0, a0))), some (vI 0)] rfl rfl <|
  k
theorem b_X12_isNoted_2 {d : Nat} {r : PO × PM} {I : Nat → Nat → Int} {S : PS} {a0 : Nat} {x1 : Int} (kt : I a0 56 ≤ x1 → Ev d mX12_isNoted (45, [some (vR (some (22, 0, a0))), some (vI x1)], [], (I, S)) r) (kf : x1 < I a0 56 → Ev d mX12_isNoted (10, [some (vR (some (22, 0, a0))), some (vI x1)], [], (I, S)) r) : Ev d mX12_isNoted (2, [some (vR (some (22, 0, a0))), some (vI x1)], [], (I, S)) r :=
  s_iload_n rfl rfl rfl <|
  s_aload_n rfl rfl rfl <|
  s_getI rfl rfl rfl <|
  s_icmp_ge 45 rfl rfl kt kf
theorem b_X12_isNoted_10 {d : Nat} {r : PO × PM} {I : Nat → Nat → Int} {S : PS} {a0 p1 q1 : Nat} {x1 z : Int} {I1 : Nat → Nat → Int} {S1 : PS} (hr1 : S.1 a0 57 = some (0, q1, p1)) (ho2 : -2147483648 ≤ 2 * x1 ∧ 2 * x1 ≤ 2147483647) (hi3 : 0 ≤ 2 * x1 ∧ 2 * x1 < (q1 : Nat)) (c : Ca d mX12_behind [vR (some (22, 0, a0)), vI 18, vI (I p1 (2 * x1).toNat)] (I, S) (.inl (some (vI z))) (I1, S1)) (k : Ev (d + 1) mX12_isNoted (24, [some (vR (some (22, 0, a0))), some (vI x1)], [vI z], (I1, S1)) r) : Ev (d + 1) mX12_isNoted (10, [some (vR (some (22, 0, a0))), some (vI x1)], [], (I, S)) r :=
  s_aload_n rfl rfl rfl <|
  s_bipush rfl rfl <|
  s_aload_n rfl rfl rfl <|
  s_getR rfl rfl rfl hr1 <|
  s_iconst rfl rfl <|
  s_iload_n rfl rfl rfl <|
  s_imulp rfl ho2 <|
  s_iald rfl rfl hi3 <|
  s_cvI rfl rfl rfl rfl rfl c k
theorem b_X12_isNoted_24 {d : Nat} {r : PO × PM} {I : Nat → Nat → Int} {S : PS} {a0 p1 q1 : Nat} {x1 xs0 : Int} (hr1 : S.1 a0 57 = some (0, q1, p1)) (ho2 : -2147483648 ≤ 2 * x1 ∧ 2 * x1 ≤ 2147483647) (ho3 : -2147483648 ≤ (2 * x1) + 1 ∧ (2 * x1) + 1 ≤ 2147483647) (hi4 : 0 ≤ (2 * x1) + 1 ∧ (2 * x1) + 1 < (q1 : Nat)) (kt : xs0 = I p1 ((2 * x1) + 1).toNat → Ev d mX12_isNoted (39, [some (vR (some (22, 0, a0))), some (vI x1)], [], (I, S)) r) (kf : xs0 ≠ I p1 ((2 * x1) + 1).toNat → Ev d mX12_isNoted (37, [some (vR (some (22, 0, a0))), some (vI x1)], [], (I, S)) r) : Ev d mX12_isNoted (24, [some (vR (some (22, 0, a0))), some (vI x1)], [vI xs0], (I, S)) r :=
  s_aload_n rfl rfl rfl <|
  s_getR rfl rfl rfl hr1 <|
  s_iconst rfl rfl <|
  s_iload_n rfl rfl rfl <|
  s_imulp rfl ho2 <|
  s_iconst rfl rfl <|
  s_iaddp rfl ho3 <|
  s_iald rfl rfl hi4 <|
  s_icmp_eq 39 rfl rfl kt kf
theorem b_X12_isNoted_37 {d : Nat} {I : Nat → Nat → Int} {S : PS} {a0 : Nat} {x1 : Int} : Ev d mX12_isNoted (37, [some (vR (some (22, 0, a0))), some (vI x1)], [], (I, S)) (.inl (some (vI 0)), (I, S)) :=
  s_iconst rfl rfl <|
  s_ret rfl rfl
theorem b_X12_isNoted_39 {d : Nat} {r : PO × PM} {I : Nat → Nat → Int} {S : PS} {a0 : Nat} {x1 : Int} (ho1 : -2147483648 ≤ x1 + 1 ∧ x1 + 1 ≤ 2147483647) (k : Ev d mX12_isNoted (2, [some (vR (some (22, 0, a0))), some (vI (x1 + 1))], [], (I, S)) r) : Ev d mX12_isNoted (39, [some (vR (some (22, 0, a0))), some (vI x1)], [], (I, S)) r :=
  s_iincp [some (vR (some (22, 0, a0))), some (vI (x1 + 1))] rfl rfl ho1 rfl <|
  s_goto 2 rfl rfl k
theorem b_X12_isNoted_45 {d : Nat} {I : Nat → Nat → Int} {S : PS} {a0 : Nat} {x1 : Int} : Ev d mX12_isNoted (45, [some (vR (some (22, 0, a0))), some (vI x1)], [], (I, S)) (.inl (some (vI 1)), (I, S)) :=
  s_iconst rfl rfl <|
  s_ret rfl rfl
theorem b_X12_meant_0 {d : Nat} {r : PO × PM} {I : Nat → Nat → Int} {S : PS} {a0 : Nat} {x1 z : Int} {I1 : Nat → Nat → Int} {S1 : PS} (c : Ca d mX12_isWhat [vR (some (22, 0, a0)), vI x1, vI 2] ((up2 I a0 0 0), S) (.inl (some (vI z))) (I1, S1)) (k : Ev (d + 1) mX12_meant (11, [some (vR (some (22, 0, a0))), some (vI x1), none, none, none, none], [vI z], (I1, S1)) r) : Ev (d + 1) mX12_meant (0, [some (vR (some (22, 0, a0))), some (vI x1), none, none, none, none], [], (I, S)) r :=
  s_aload_n rfl rfl rfl <|
  s_iconst rfl rfl <|
  s_putI rfl rfl rfl <|
  s_aload_n rfl rfl rfl <|
  s_iload_n rfl rfl rfl <|
  s_iconst rfl rfl <|
  s_cvI rfl rfl rfl rfl rfl c k
theorem b_X12_meant_11 {d : Nat} {r : PO × PM} {I : Nat → Nat → Int} {S : PS} {a0 : Nat} {x1 xs0 : Int} (kt : xs0 ≠ 0 → Ev d mX12_meant (16, [some (vR (some (22, 0, a0))), some (vI x1), none, none, none, none], [], (I, S)) r) (kf : xs0 = 0 → Ev d mX12_meant (14, [some (vR (some (22, 0, a0))), some (vI x1), none, none, none, none], [], (I, S)) r) : Ev d mX12_meant (11, [some (vR (some (22, 0, a0))), some (vI x1), none, none, none, none], [vI xs0], (I, S)) r :=
  s_if_ne 16 rfl rfl kt kf
theorem b_X12_meant_14 {d : Nat} {I : Nat → Nat → Int} {S : PS} {a0 : Nat} {x1 : Int} : Ev d mX12_meant (14, [some (vR (some (22, 0, a0))), some (vI x1), none, none, none, none], [], (I, S)) (.inl (some (vI 0)), (I, S)) :=
  s_iconst rfl rfl <|
  s_ret rfl rfl
theorem b_X12_meant_16 {d : Nat} {r : PO × PM} {I : Nat → Nat → Int} {S : PS} {a0 : Nat} {x1 : Int} {I1 : Nat → Nat → Int} {S1 : PS} (c : Ca d mX12_tries [vR (some (22, 0, a0))] (I, S) (.inl none) (I1, S1)) (k : Ev (d + 1) mX12_meant (20, [some (vR (some (22, 0, a0))), some (vI x1), none, none, none, none], [], (I1, S1)) r) : Ev (d + 1) mX12_meant (16, [some (vR (some (22, 0, a0))), some (vI x1), none, none, none, none], [], (I, S)) r :=
  s_aload_n rfl rfl rfl <|
  s_cvV rfl rfl rfl rfl rfl c k
theorem b_X12_meant_20 {d : Nat} {r : PO × PM} {I : Nat → Nat → Int} {S : PS} {a0 : Nat} {x1 : Int} (kt : x1 ≠ 2 → Ev d mX12_meant (38, [some (vR (some (22, 0, a0))), some (vI x1), none, none, none, none], [], (I, S)) r) (kf : x1 = 2 → Ev d mX12_meant (25, [some (vR (some (22, 0, a0))), some (vI x1), none, none, none, none], [], (I, S)) r) : Ev d mX12_meant (20, [some (vR (some (22, 0, a0))), some (vI x1), none, none, none, none], [], (I, S)) r :=
  s_iload_n rfl rfl rfl <|
  s_iconst rfl rfl <|
  s_icmp_ne 38 rfl rfl kt kf
theorem b_X12_meant_25 {d : Nat} {r : PO × PM} {I : Nat → Nat → Int} {S : PS} {a0 : Nat} {x1 z : Int} {I1 : Nat → Nat → Int} {S1 : PS} (c : Ca d mX12_isNoted [vR (some (22, 0, a0))] (I, S) (.inl (some (vI z))) (I1, S1)) (k : Ev (d + 1) mX12_meant (29, [some (vR (some (22, 0, a0))), some (vI x1), none, none, none, none], [vI z], (I1, S1)) r) : Ev (d + 1) mX12_meant (25, [some (vR (some (22, 0, a0))), some (vI x1), none, none, none, none], [], (I, S)) r :=
  s_aload_n rfl rfl rfl <|
  s_cvI rfl rfl rfl rfl rfl c k
theorem b_X12_meant_29 {d : Nat} {r : PO × PM} {I : Nat → Nat → Int} {S : PS} {a0 : Nat} {x1 xs0 : Int} (kt : xs0 = 0 → Ev d mX12_meant (36, [some (vR (some (22, 0, a0))), some (vI x1), none, none, none, none], [], (I, S)) r) (kf : xs0 ≠ 0 → Ev d mX12_meant (32, [some (vR (some (22, 0, a0))), some (vI x1), none, none, none, none], [], (I, S)) r) : Ev d mX12_meant (29, [some (vR (some (22, 0, a0))), some (vI x1), none, none, none, none], [vI xs0], (I, S)) r :=
  s_if_eq 36 rfl rfl kt kf
theorem b_X12_meant_32 {d : Nat} {r : PO × PM} {I : Nat → Nat → Int} {S : PS} {a0 : Nat} {x1 : Int} (k : Ev d mX12_meant (37, [some (vR (some (22, 0, a0))), some (vI x1), none, none, none, none], [vI 1], (I, S)) r) : Ev d mX12_meant (32, [some (vR (some (22, 0, a0))), some (vI x1), none, none, none, none], [], (I, S)) r :=
  s_iconst rfl rfl <|
  s_goto 37 rfl rfl k
theorem b_X12_meant_36 {d : Nat} {r : PO × PM} {I : Nat → Nat → Int} {S : PS} {a0 : Nat} {x1 : Int} (k : Ev d mX12_meant (37, [some (vR (some (22, 0, a0))), some (vI x1), none, none, none, none], [vI 0], (I, S)) r) : Ev d mX12_meant (36, [some (vR (some (22, 0, a0))), some (vI x1), none, none, none, none], [], (I, S)) r :=
  s_iconst rfl rfl <|
  k
theorem b_X12_meant_37 {d : Nat} {I : Nat → Nat → Int} {S : PS} {a0 : Nat} {x1 xs0 : Int} : Ev d mX12_meant (37, [some (vR (some (22, 0, a0))), some (vI x1), none, none, none, none], [vI xs0], (I, S)) (.inl (some (vI xs0)), (I, S)) :=
  s_ret rfl rfl
theorem b_X12_meant_38 {d : Nat} {r : PO × PM} {I : Nat → Nat → Int} {S : PS} {a0 : Nat} {x1 : Int} (k : Ev d mX12_meant (45, [some (vR (some (22, 0, a0))), some (vI x1), some (vI 0), some (vI (-1)), some (vI 0), none], [], (I, S)) r) : Ev d mX12_meant (38, [some (vR (some (22, 0, a0))), some (vI x1), none, none, none, none], [], (I, S)) r :=
  s_iconst rfl rfl <|
  s_istore_n [some (vR (some (22, 0, a0))), some (vI x1), some (vI 0), none, none, none] rfl rfl <|
  s_iconst rfl rfl <|
  s_istore_n [some (vR (some (22, 0, a0))), some (vI x1), some (vI 0), some (vI (-1)), none, none] rfl rfl <|
  s_iconst rfl rfl <|
  s_istore [some (vR (some (22, 0, a0))), some (vI x1), some (vI 0), some (vI (-1)), some (vI 0), none] rfl rfl <|
  k
theorem b_X12_meant_45 {d : Nat} {r : PO × PM} {I : Nat → Nat → Int} {S : PS} {a0 : Nat} {x1 x2 x3 x4 : Int} (kt : I a0 14 ≤ x4 → Ev d mX12_meant (150, [some (vR (some (22, 0, a0))), some (vI x1), some (vI x2), some (vI x3), some (vI x4), none], [], (I, S)) r) (kf : x4 < I a0 14 → Ev d mX12_meant (54, [some (vR (some (22, 0, a0))), some (vI x1), some (vI x2), some (vI x3), some (vI x4), none], [], (I, S)) r) : Ev d mX12_meant (45, [some (vR (some (22, 0, a0))), some (vI x1), some (vI x2), some (vI x3), some (vI x4), none], [], (I, S)) r :=
  s_iload rfl rfl rfl <|
  s_aload_n rfl rfl rfl <|
  s_getI rfl rfl rfl <|
  s_icmp_ge 150 rfl rfl kt kf
theorem b_X12_meant_54 {d : Nat} {r : PO × PM} {I : Nat → Nat → Int} {S : PS} {a0 : Nat} {x1 x2 x3 x4 : Int} (k : Ev d mX12_meant (57, [some (vR (some (22, 0, a0))), some (vI x1), some (vI x2), some (vI x3), some (vI x4), some (vI 1)], [], (I, S)) r) : Ev d mX12_meant (54, [some (vR (some (22, 0, a0))), some (vI x1), some (vI x2), some (vI x3), some (vI x4), none], [], (I, S)) r :=
  s_iconst rfl rfl <|
  s_istore [some (vR (some (22, 0, a0))), some (vI x1), some (vI x2), some (vI x3), some (vI x4), some (vI 1)] rfl rfl <|
  k
theorem b_X12_meant_57 {d : Nat} {r : PO × PM} {I : Nat → Nat → Int} {S : PS} {a0 : Nat} {x1 x2 x3 x4 x5 : Int} (kt : 100 ≤ x5 → Ev d mX12_meant (124, [some (vR (some (22, 0, a0))), some (vI x1), some (vI x2), some (vI x3), some (vI x4), some (vI x5)], [], (I, S)) r) (kf : x5 < 100 → Ev d mX12_meant (64, [some (vR (some (22, 0, a0))), some (vI x1), some (vI x2), some (vI x3), some (vI x4), some (vI x5)], [], (I, S)) r) : Ev d mX12_meant (57, [some (vR (some (22, 0, a0))), some (vI x1), some (vI x2), some (vI x3), some (vI x4), some (vI x5)], [], (I, S)) r :=
  s_iload rfl rfl rfl <|
  s_bipush rfl rfl <|
  s_icmp_ge 124 rfl rfl kt kf
theorem b_X12_meant_64 {d : Nat} {r : PO × PM} {I : Nat → Nat → Int} {S : PS} {a0 p1 q1 : Nat} {x1 x2 x3 x4 x5 : Int} (hr1 : S.1 a0 39 = some (0, q1, p1)) (ho2 : -2147483648 ≤ 30 + x4 ∧ 30 + x4 ≤ 2147483647) (hi3 : 0 ≤ 30 + x4 ∧ 30 + x4 < (q1 : Nat)) (ho4 : -2147483648 ≤ 12 + x4 ∧ 12 + x4 ≤ 2147483647) (hi5 : 0 ≤ 12 + x4 ∧ 12 + x4 < (q1 : Nat)) (kt : x5 = (up2 I p1 ((30 + x4).toNat) x5) p1 (12 + x4).toNat → Ev d mX12_meant (118, [some (vR (some (22, 0, a0))), some (vI x1), some (vI x2), some (vI x3), some (vI x4), some (vI x5)], [], ((up2 I p1 ((30 + x4).toNat) x5), S)) r) (kf : x5 ≠ (up2 I p1 ((30 + x4).toNat) x5) p1 (12 + x4).toNat → Ev d mX12_meant (91, [some (vR (some (22, 0, a0))), some (vI x1), some (vI x2), some (vI x3), some (vI x4), some (vI x5)], [], ((up2 I p1 ((30 + x4).toNat) x5), S)) r) : Ev d mX12_meant (64, [some (vR (some (22, 0, a0))), some (vI x1), some (vI x2), some (vI x3), some (vI x4), some (vI x5)], [], (I, S)) r :=
  s_aload_n rfl rfl rfl <|
  s_getR rfl rfl rfl hr1 <|
  s_bipush rfl rfl <|
  s_iload rfl rfl rfl <|
  s_iaddp rfl ho2 <|
  s_iload rfl rfl rfl <|
  s_iast rfl hi3 <|
  s_iload rfl rfl rfl <|
  s_aload_n rfl rfl rfl <|
  s_getR rfl rfl rfl hr1 <|
  s_bipush rfl rfl <|
  s_iload rfl rfl rfl <|
  s_iaddp rfl ho4 <|
  s_iald rfl rfl hi5 <|
  s_icmp_eq 118 rfl rfl kt kf
theorem b_X12_meant_91 {d : Nat} {r : PO × PM} {I : Nat → Nat → Int} {S : PS} {a0 : Nat} {x1 x2 x3 x4 x5 z : Int} {I1 : Nat → Nat → Int} {S1 : PS} (c : Ca d mX12_isNoted [vR (some (22, 0, a0))] (I, S) (.inl (some (vI z))) (I1, S1)) (k : Ev (d + 1) mX12_meant (95, [some (vR (some (22, 0, a0))), some (vI x1), some (vI x2), some (vI x3), some (vI x4), some (vI x5)], [vI z], (I1, S1)) r) : Ev (d + 1) mX12_meant (91, [some (vR (some (22, 0, a0))), some (vI x1), some (vI x2), some (vI x3), some (vI x4), some (vI x5)], [], (I, S)) r :=
  s_aload_n rfl rfl rfl <|
  s_cvI rfl rfl rfl rfl rfl c k
theorem b_X12_meant_95 {d : Nat} {r : PO × PM} {I : Nat → Nat → Int} {S : PS} {a0 : Nat} {x1 x2 x3 x4 x5 xs0 : Int} (kt : xs0 ≠ 0 → Ev d mX12_meant (101, [some (vR (some (22, 0, a0))), some (vI x1), some (vI x2), some (vI x3), some (vI x4), some (vI x5)], [], (I, S)) r) (kf : xs0 = 0 → Ev d mX12_meant (98, [some (vR (some (22, 0, a0))), some (vI x1), some (vI x2), some (vI x3), some (vI x4), some (vI x5)], [], (I, S)) r) : Ev d mX12_meant (95, [some (vR (some (22, 0, a0))), some (vI x1), some (vI x2), some (vI x3), some (vI x4), some (vI x5)], [vI xs0], (I, S)) r :=
  s_if_ne 101 rfl rfl kt kf
theorem b_X12_meant_98 {d : Nat} {r : PO × PM} {I : Nat → Nat → Int} {S : PS} {a0 : Nat} {x1 x2 x3 x4 x5 : Int} (k : Ev d mX12_meant (118, [some (vR (some (22, 0, a0))), some (vI x1), some (vI x2), some (vI x3), some (vI x4), some (vI x5)], [], (I, S)) r) : Ev d mX12_meant (98, [some (vR (some (22, 0, a0))), some (vI x1), some (vI x2), some (vI x3), some (vI x4), some (vI x5)], [], (I, S)) r :=
  s_goto 118 rfl rfl k
theorem b_X12_meant_101 {d : Nat} {r : PO × PM} {I : Nat → Nat → Int} {S : PS} {a0 : Nat} {x1 x2 x3 x4 x5 : Int} (ho1 : -2147483648 ≤ x2 + 1 ∧ x2 + 1 ≤ 2147483647) (kt : x3 ≠ (-1) → Ev d mX12_meant (118, [some (vR (some (22, 0, a0))), some (vI x1), some (vI (x2 + 1)), some (vI x3), some (vI x4), some (vI x5)], [], (I, S)) r) (kf : x3 = (-1) → Ev d mX12_meant (109, [some (vR (some (22, 0, a0))), some (vI x1), some (vI (x2 + 1)), some (vI x3), some (vI x4), some (vI x5)], [], (I, S)) r) : Ev d mX12_meant (101, [some (vR (some (22, 0, a0))), some (vI x1), some (vI x2), some (vI x3), some (vI x4), some (vI x5)], [], (I, S)) r :=
  s_iincp [some (vR (some (22, 0, a0))), some (vI x1), some (vI (x2 + 1)), some (vI x3), some (vI x4), some (vI x5)] rfl rfl ho1 rfl <|
  s_iload_n rfl rfl rfl <|
  s_iconst rfl rfl <|
  s_icmp_ne 118 rfl rfl kt kf
theorem b_X12_meant_109 {d : Nat} {r : PO × PM} {I : Nat → Nat → Int} {S : PS} {a0 : Nat} {x1 x2 x3 x4 x5 : Int} (ho1 : -2147483648 ≤ 100 * x4 ∧ 100 * x4 ≤ 2147483647) (ho2 : -2147483648 ≤ (100 * x4) + x5 ∧ (100 * x4) + x5 ≤ 2147483647) (k : Ev d mX12_meant (118, [some (vR (some (22, 0, a0))), some (vI x1), some (vI x2), some (vI ((100 * x4) + x5)), some (vI x4), some (vI x5)], [], (I, S)) r) : Ev d mX12_meant (109, [some (vR (some (22, 0, a0))), some (vI x1), some (vI x2), some (vI x3), some (vI x4), some (vI x5)], [], (I, S)) r :=
  s_bipush rfl rfl <|
  s_iload rfl rfl rfl <|
  s_imulp rfl ho1 <|
  s_iload rfl rfl rfl <|
  s_iaddp rfl ho2 <|
  s_istore_n [some (vR (some (22, 0, a0))), some (vI x1), some (vI x2), some (vI ((100 * x4) + x5)), some (vI x4), some (vI x5)] rfl rfl <|
  k
theorem b_X12_meant_118 {d : Nat} {r : PO × PM} {I : Nat → Nat → Int} {S : PS} {a0 : Nat} {x1 x2 x3 x4 x5 : Int} (ho1 : -2147483648 ≤ x5 + 1 ∧ x5 + 1 ≤ 2147483647) (k : Ev d mX12_meant (57, [some (vR (some (22, 0, a0))), some (vI x1), some (vI x2), some (vI x3), some (vI x4), some (vI (x5 + 1))], [], (I, S)) r) : Ev d mX12_meant (118, [some (vR (some (22, 0, a0))), some (vI x1), some (vI x2), some (vI x3), some (vI x4), some (vI x5)], [], (I, S)) r :=
  s_iincp [some (vR (some (22, 0, a0))), some (vI x1), some (vI x2), some (vI x3), some (vI x4), some (vI (x5 + 1))] rfl rfl ho1 rfl <|
  s_goto 57 rfl rfl k
theorem b_X12_meant_124 {d : Nat} {r : PO × PM} {I : Nat → Nat → Int} {S : PS} {a0 p1 q1 : Nat} {x1 x2 x3 x4 x5 : Int} (hr1 : S.1 a0 39 = some (0, q1, p1)) (ho2 : -2147483648 ≤ 30 + x4 ∧ 30 + x4 ≤ 2147483647) (ho3 : -2147483648 ≤ 12 + x4 ∧ 12 + x4 ≤ 2147483647) (hi4 : 0 ≤ 12 + x4 ∧ 12 + x4 < (q1 : Nat)) (hi5 : 0 ≤ 30 + x4 ∧ 30 + x4 < (q1 : Nat)) (ho6 : -2147483648 ≤ x4 + 1 ∧ x4 + 1 ≤ 2147483647) (k : Ev d mX12_meant (45, [some (vR (some (22, 0, a0))), some (vI x1), some (vI x2), some (vI x3), some (vI (x4 + 1)), none], [], ((up2 I p1 ((30 + x4).toNat) (I p1 (12 + x4).toNat)), S)) r) : Ev d mX12_meant (124, [some (vR (some (22, 0, a0))), some (vI x1), some (vI x2), some (vI x3), some (vI x4), some (vI x5)], [], (I, S)) r :=
  s_aload_n rfl rfl rfl <|
  s_getR rfl rfl rfl hr1 <|
  s_bipush rfl rfl <|
  s_iload rfl rfl rfl <|
  s_iaddp rfl ho2 <|
  s_aload_n rfl rfl rfl <|
  s_getR rfl rfl rfl hr1 <|
  s_bipush rfl rfl <|
  s_iload rfl rfl rfl <|
  s_iaddp rfl ho3 <|
  s_iald rfl rfl hi4 <|
  s_iast rfl hi5 <|
  s_iincp [some (vR (some (22, 0, a0))), some (vI x1), some (vI x2), some (vI x3), some (vI (x4 + 1)), some (vI x5)] rfl rfl ho6 rfl <|
  s_goto 45 rfl rfl (ev_forget [false, false, false, false, false, true] rfl k)
theorem b_X12_meant_150 {d : Nat} {r : PO × PM} {I : Nat → Nat → Int} {S : PS} {a0 : Nat} {x1 x2 x3 x4 : Int} (kt : x1 ≠ 0 → Ev d mX12_meant (158, [some (vR (some (22, 0, a0))), some (vI x1), some (vI x2), some (vI x3), some (vI x4), none], [], (I, S)) r) (kf : x1 = 0 → Ev d mX12_meant (154, [some (vR (some (22, 0, a0))), some (vI x1), some (vI x2), some (vI x3), some (vI x4), none], [], (I, S)) r) : Ev d mX12_meant (150, [some (vR (some (22, 0, a0))), some (vI x1), some (vI x2), some (vI x3), some (vI x4), none], [], (I, S)) r :=
  s_iload_n rfl rfl rfl <|
  s_if_ne 158 rfl rfl kt kf
theorem b_X12_meant_154 {d : Nat} {r : PO × PM} {I : Nat → Nat → Int} {S : PS} {a0 : Nat} {x1 x2 x3 x4 : Int} (k : Ev d mX12_meant (159, [some (vR (some (22, 0, a0))), some (vI x1), some (vI x2), some (vI x3), some (vI x4), none], [vI x2], (I, S)) r) : Ev d mX12_meant (154, [some (vR (some (22, 0, a0))), some (vI x1), some (vI x2), some (vI x3), some (vI x4), none], [], (I, S)) r :=
  s_iload_n rfl rfl rfl <|
  s_goto 159 rfl rfl k
theorem b_X12_meant_158 {d : Nat} {r : PO × PM} {I : Nat → Nat → Int} {S : PS} {a0 : Nat} {x1 x2 x3 x4 : Int} (k : Ev d mX12_meant (159, [some (vR (some (22, 0, a0))), some (vI x1), some (vI x2), some (vI x3), some (vI x4), none], [vI x3], (I, S)) r) : Ev d mX12_meant (158, [some (vR (some (22, 0, a0))), some (vI x1), some (vI x2), some (vI x3), some (vI x4), none], [], (I, S)) r :=
  s_iload_n rfl rfl rfl <|
  k
theorem b_X12_meant_159 {d : Nat} {I : Nat → Nat → Int} {S : PS} {a0 : Nat} {x1 x2 x3 x4 xs0 : Int} : Ev d mX12_meant (159, [some (vR (some (22, 0, a0))), some (vI x1), some (vI x2), some (vI x3), some (vI x4), none], [vI xs0], (I, S)) (.inl (some (vI xs0)), (I, S)) :=
  s_ret rfl rfl
theorem b_X12_draw_0 {d : Nat} {I : Nat → Nat → Int} {S : PS} {a0 : Nat} {x1 : Int} (hz1 : x1 ≠ 0) : Ev d mX12_draw (0, [some (vR (some (22, 0, a0))), some (vI x1)], [], (I, S)) (.inl (some (vI (p_rem (p_and (p_shr ((up2 I a0 58 (p_add (p_mul (I a0 58) 1103515245) 12345)) a0 58) 16) 32767) x1))), ((up2 I a0 58 (p_add (p_mul (I a0 58) 1103515245) 12345)), S)) :=
  s_aload_n rfl rfl rfl <|
  s_aload_n rfl rfl rfl <|
  s_getI rfl rfl rfl <|
  s_ldc_w rfl rfl <|
  s_imul rfl <|
  s_sipush rfl rfl <|
  s_iadd rfl <|
  s_putI rfl rfl rfl <|
  s_aload_n rfl rfl rfl <|
  s_getI rfl rfl rfl <|
  s_bipush rfl rfl <|
  s_ishr rfl <|
  s_sipush rfl rfl <|
  s_iand rfl <|
  s_iload_n rfl rfl rfl <|
  s_irem rfl hz1 <|
  s_ret rfl rfl
theorem b_X12_happens_0 {d : Nat} {r : PO × PM} {I : Nat → Nat → Int} {S : PS} {a0 : Nat} {I1 : Nat → Nat → Int} {S1 : PS} {z : Int} (c : Ca d mX12_draw [vR (some (22, 0, a0)), vI 3] (I, S) (.inl (some (vI z))) (I1, S1)) (k : Ev (d + 1) mX12_happens (5, [some (vR (some (22, 0, a0))), none, none, none], [vI z], (I1, S1)) r) : Ev (d + 1) mX12_happens (0, [some (vR (some (22, 0, a0))), none, none, none], [], (I, S)) r :=
  s_aload_n rfl rfl rfl <|
  s_iconst rfl rfl <|
  s_cvI rfl rfl rfl rfl rfl c k
theorem b_X12_happens_5 {d : Nat} {r : PO × PM} {I : Nat → Nat → Int} {S : PS} {a0 : Nat} {xs0 z : Int} {I1 : Nat → Nat → Int} {S1 : PS} (c : Ca d mX12_draw [vR (some (22, 0, a0)), vI (I a0 15)] (I, S) (.inl (some (vI z))) (I1, S1)) (k : Ev (d + 1) mX12_happens (14, [some (vR (some (22, 0, a0))), some (vI xs0), none, none], [vI z], (I1, S1)) r) : Ev (d + 1) mX12_happens (5, [some (vR (some (22, 0, a0))), none, none, none], [vI xs0], (I, S)) r :=
  s_istore_n [some (vR (some (22, 0, a0))), some (vI xs0), none, none] rfl rfl <|
  s_aload_n rfl rfl rfl <|
  s_aload_n rfl rfl rfl <|
  s_getI rfl rfl rfl <|
  s_cvI rfl rfl rfl rfl rfl c k
theorem b_X12_happens_14 {d : Nat} {r : PO × PM} {I : Nat → Nat → Int} {S : PS} {a0 : Nat} {x1 xs0 z : Int} {I1 : Nat → Nat → Int} {S1 : PS} (c : Ca d mX12_draw [vR (some (22, 0, a0)), vI 4] (I, S) (.inl (some (vI z))) (I1, S1)) (k : Ev (d + 1) mX12_happens (20, [some (vR (some (22, 0, a0))), some (vI x1), some (vI xs0), none], [vI z], (I1, S1)) r) : Ev (d + 1) mX12_happens (14, [some (vR (some (22, 0, a0))), some (vI x1), none, none], [vI xs0], (I, S)) r :=
  s_istore_n [some (vR (some (22, 0, a0))), some (vI x1), some (vI xs0), none] rfl rfl <|
  s_aload_n rfl rfl rfl <|
  s_iconst rfl rfl <|
  s_cvI rfl rfl rfl rfl rfl c k
theorem b_X12_happens_20 {d : Nat} {r : PO × PM} {I : Nat → Nat → Int} {S : PS} {a0 : Nat} {x1 x2 xs0 : Int} (kt : x1 ≠ 0 → Ev d mX12_happens (48, [some (vR (some (22, 0, a0))), some (vI x1), some (vI x2), some (vI xs0)], [], (I, S)) r) (kf : x1 = 0 → Ev d mX12_happens (25, [some (vR (some (22, 0, a0))), some (vI x1), some (vI x2), some (vI xs0)], [], (I, S)) r) : Ev d mX12_happens (20, [some (vR (some (22, 0, a0))), some (vI x1), some (vI x2), none], [vI xs0], (I, S)) r :=
  s_istore_n [some (vR (some (22, 0, a0))), some (vI x1), some (vI x2), some (vI xs0)] rfl rfl <|
  s_iload_n rfl rfl rfl <|
  s_if_ne 48 rfl rfl kt kf
theorem b_X12_happens_25 {d : Nat} {r : PO × PM} {I : Nat → Nat → Int} {S : PS} {a0 : Nat} {x1 x2 x3 z : Int} {I1 : Nat → Nat → Int} {S1 : PS} (c : Ca d mX12_canPaint [vR (some (22, 0, a0)), vI 18, vI x2, vI x3] (I, S) (.inl (some (vI z))) (I1, S1)) (k : Ev (d + 1) mX12_happens (33, [some (vR (some (22, 0, a0))), some (vI x1), some (vI x2), some (vI x3)], [vI z], (I1, S1)) r) : Ev (d + 1) mX12_happens (25, [some (vR (some (22, 0, a0))), some (vI x1), some (vI x2), some (vI x3)], [], (I, S)) r :=
  s_aload_n rfl rfl rfl <|
  s_bipush rfl rfl <|
  s_iload_n rfl rfl rfl <|
  s_iload_n rfl rfl rfl <|
  s_cvI rfl rfl rfl rfl rfl c k
theorem b_X12_happens_33 {d : Nat} {r : PO × PM} {I : Nat → Nat → Int} {S : PS} {a0 : Nat} {x1 x2 x3 xs0 : Int} (kt : xs0 = 0 → Ev d mX12_happens (48, [some (vR (some (22, 0, a0))), some (vI x1), some (vI x2), some (vI x3)], [], (I, S)) r) (kf : xs0 ≠ 0 → Ev d mX12_happens (36, [some (vR (some (22, 0, a0))), some (vI x1), some (vI x2), some (vI x3)], [], (I, S)) r) : Ev d mX12_happens (33, [some (vR (some (22, 0, a0))), some (vI x1), some (vI x2), some (vI x3)], [vI xs0], (I, S)) r :=
  s_if_eq 48 rfl rfl kt kf
theorem b_X12_happens_36 {d : Nat} {I : Nat → Nat → Int} {S : PS} {a0 p1 q1 : Nat} {x1 x2 x3 : Int} (hr1 : S.1 a0 39 = some (0, q1, p1)) (ho2 : -2147483648 ≤ 18 + x2 ∧ 18 + x2 ≤ 2147483647) (hi3 : 0 ≤ 18 + x2 ∧ 18 + x2 < (q1 : Nat)) : Ev d mX12_happens (36, [some (vR (some (22, 0, a0))), some (vI x1), some (vI x2), some (vI x3)], [], (I, S)) (.inl (some (vI 1)), ((up2 I p1 ((18 + x2).toNat) x3), S)) :=
  s_aload_n rfl rfl rfl <|
  s_getR rfl rfl rfl hr1 <|
  s_bipush rfl rfl <|
  s_iload_n rfl rfl rfl <|
  s_iaddp rfl ho2 <|
  s_iload_n rfl rfl rfl <|
  s_iast rfl hi3 <|
  s_iconst rfl rfl <|
  s_ret rfl rfl
theorem b_X12_happens_48 {d : Nat} {r : PO × PM} {I : Nat → Nat → Int} {S : PS} {a0 : Nat} {x1 x2 x3 : Int} (kt : x1 ≠ 1 → Ev d mX12_happens (78, [some (vR (some (22, 0, a0))), some (vI x1), some (vI x2), some (vI x3)], [], (I, S)) r) (kf : x1 = 1 → Ev d mX12_happens (53, [some (vR (some (22, 0, a0))), some (vI x1), some (vI x2), some (vI x3)], [], (I, S)) r) : Ev d mX12_happens (48, [some (vR (some (22, 0, a0))), some (vI x1), some (vI x2), some (vI x3)], [], (I, S)) r :=
  s_iload_n rfl rfl rfl <|
  s_iconst rfl rfl <|
  s_icmp_ne 78 rfl rfl kt kf
theorem b_X12_happens_53 {d : Nat} {r : PO × PM} {I : Nat → Nat → Int} {S : PS} {a0 p1 q1 : Nat} {x1 x2 x3 : Int} (hr1 : S.1 a0 39 = some (0, q1, p1)) (ho2 : -2147483648 ≤ 18 + x2 ∧ 18 + x2 ≤ 2147483647) (hi3 : 0 ≤ 18 + x2 ∧ 18 + x2 < (q1 : Nat)) (kt : I p1 (18 + x2).toNat = (-1) → Ev d mX12_happens (78, [some (vR (some (22, 0, a0))), some (vI x1), some (vI x2), some (vI x3)], [], (I, S)) r) (kf : I p1 (18 + x2).toNat ≠ (-1) → Ev d mX12_happens (66, [some (vR (some (22, 0, a0))), some (vI x1), some (vI x2), some (vI x3)], [], (I, S)) r) : Ev d mX12_happens (53, [some (vR (some (22, 0, a0))), some (vI x1), some (vI x2), some (vI x3)], [], (I, S)) r :=
  s_aload_n rfl rfl rfl <|
  s_getR rfl rfl rfl hr1 <|
  s_bipush rfl rfl <|
  s_iload_n rfl rfl rfl <|
  s_iaddp rfl ho2 <|
  s_iald rfl rfl hi3 <|
  s_iconst rfl rfl <|
  s_icmp_eq 78 rfl rfl kt kf
theorem b_X12_happens_66 {d : Nat} {I : Nat → Nat → Int} {S : PS} {a0 p1 q1 : Nat} {x1 x2 x3 : Int} (hr1 : S.1 a0 39 = some (0, q1, p1)) (ho2 : -2147483648 ≤ 18 + x2 ∧ 18 + x2 ≤ 2147483647) (hi3 : 0 ≤ 18 + x2 ∧ 18 + x2 < (q1 : Nat)) : Ev d mX12_happens (66, [some (vR (some (22, 0, a0))), some (vI x1), some (vI x2), some (vI x3)], [], (I, S)) (.inl (some (vI 1)), ((up2 I p1 ((18 + x2).toNat) (-1)), S)) :=
  s_aload_n rfl rfl rfl <|
  s_getR rfl rfl rfl hr1 <|
  s_bipush rfl rfl <|
  s_iload_n rfl rfl rfl <|
  s_iaddp rfl ho2 <|
  s_iconst rfl rfl <|
  s_iast rfl hi3 <|
  s_iconst rfl rfl <|
  s_ret rfl rfl
theorem b_X12_happens_78 {d : Nat} {r : PO × PM} {I : Nat → Nat → Int} {S : PS} {a0 : Nat} {x1 x2 x3 : Int} (kt : x1 ≠ 2 → Ev d mX12_happens (94, [some (vR (some (22, 0, a0))), some (vI x1), some (vI x2), some (vI x3)], [], (I, S)) r) (kf : x1 = 2 → Ev d mX12_happens (83, [some (vR (some (22, 0, a0))), some (vI x1), some (vI x2), some (vI x3)], [], (I, S)) r) : Ev d mX12_happens (78, [some (vR (some (22, 0, a0))), some (vI x1), some (vI x2), some (vI x3)], [], (I, S)) r :=
  s_iload_n rfl rfl rfl <|
  s_iconst rfl rfl <|
  s_icmp_ne 94 rfl rfl kt kf
theorem b_X12_happens_83 {d : Nat} {r : PO × PM} {I : Nat → Nat → Int} {S : PS} {a0 : Nat} {x1 x2 x3 z : Int} {I1 : Nat → Nat → Int} {S1 : PS} (c : Ca d mX12_canSwap [vR (some (22, 0, a0)), vI 18, vI x2, vI x3] (I, S) (.inl (some (vI z))) (I1, S1)) (k : Ev (d + 1) mX12_happens (91, [some (vR (some (22, 0, a0))), some (vI x1), some (vI x2), some (vI x3)], [vI z], (I1, S1)) r) : Ev (d + 1) mX12_happens (83, [some (vR (some (22, 0, a0))), some (vI x1), some (vI x2), some (vI x3)], [], (I, S)) r :=
  s_aload_n rfl rfl rfl <|
  s_bipush rfl rfl <|
  s_iload_n rfl rfl rfl <|
  s_iload_n rfl rfl rfl <|
  s_cvI rfl rfl rfl rfl rfl c k
theorem b_X12_happens_91 {d : Nat} {r : PO × PM} {I : Nat → Nat → Int} {S : PS} {a0 : Nat} {x1 x2 x3 xs0 : Int} (kt : xs0 ≠ 0 → Ev d mX12_happens (96, [some (vR (some (22, 0, a0))), some (vI x1), some (vI x2), some (vI x3)], [], (I, S)) r) (kf : xs0 = 0 → Ev d mX12_happens (94, [some (vR (some (22, 0, a0))), some (vI x1), some (vI x2), some (vI x3)], [], (I, S)) r) : Ev d mX12_happens (91, [some (vR (some (22, 0, a0))), some (vI x1), some (vI x2), some (vI x3)], [vI xs0], (I, S)) r :=
  s_if_ne 96 rfl rfl kt kf
theorem b_X12_happens_94 {d : Nat} {I : Nat → Nat → Int} {S : PS} {a0 : Nat} {x1 x2 x3 : Int} : Ev d mX12_happens (94, [some (vR (some (22, 0, a0))), some (vI x1), some (vI x2), some (vI x3)], [], (I, S)) (.inl (some (vI 0)), (I, S)) :=
  s_iconst rfl rfl <|
  s_ret rfl rfl
theorem b_X12_happens_96 {d : Nat} {r : PO × PM} {I : Nat → Nat → Int} {S : PS} {a0 : Nat} {x1 x2 x3 z : Int} {I1 : Nat → Nat → Int} {S1 : PS} (c : Ca d mX12_swaps [vR (some (22, 0, a0)), vI 18, vI x2, vI x3] (I, S) (.inl (some (vI z))) (I1, S1)) (k : Ev (d + 1) mX12_happens (104, [some (vR (some (22, 0, a0))), some (vI x1), some (vI x2), some (vI x3)], [vI z], (I1, S1)) r) : Ev (d + 1) mX12_happens (96, [some (vR (some (22, 0, a0))), some (vI x1), some (vI x2), some (vI x3)], [], (I, S)) r :=
  s_aload_n rfl rfl rfl <|
  s_bipush rfl rfl <|
  s_iload_n rfl rfl rfl <|
  s_iload_n rfl rfl rfl <|
  s_cvI rfl rfl rfl rfl rfl c k
theorem b_X12_happens_104 {d : Nat} {I : Nat → Nat → Int} {S : PS} {a0 : Nat} {x1 x2 x3 xs0 : Int} : Ev d mX12_happens (104, [some (vR (some (22, 0, a0))), some (vI x1), some (vI x2), some (vI x3)], [vI xs0], (I, S)) (.inl (some (vI 1)), (I, S)) :=
  s_pop rfl rfl <|
  s_iconst rfl rfl <|
  s_ret rfl rfl
theorem b_X12_years_0 {d : Nat} {r : PO × PM} {I : Nat → Nat → Int} {S : PS} {a0 : Nat} {x1 x2 x3 z : Int} {I1 : Nat → Nat → Int} {S1 : PS} (c : Ca d mX12_isWhat [vR (some (22, 0, a0)), vI x3, vI 2] ((up2 I a0 0 0), S) (.inl (some (vI z))) (I1, S1)) (k : Ev (d + 1) mX12_years (11, [some (vR (some (22, 0, a0))), some (vI x1), some (vI x2), some (vI x3), none, none, none], [vI z], (I1, S1)) r) : Ev (d + 1) mX12_years (0, [some (vR (some (22, 0, a0))), some (vI x1), some (vI x2), some (vI x3), none, none, none], [], (I, S)) r :=
  s_aload_n rfl rfl rfl <|
  s_iconst rfl rfl <|
  s_putI rfl rfl rfl <|
  s_aload_n rfl rfl rfl <|
  s_iload_n rfl rfl rfl <|
  s_iconst rfl rfl <|
  s_cvI rfl rfl rfl rfl rfl c k
theorem b_X12_years_11 {d : Nat} {r : PO × PM} {I : Nat → Nat → Int} {S : PS} {a0 : Nat} {x1 x2 x3 xs0 : Int} (kt : xs0 = 0 → Ev d mX12_years (29, [some (vR (some (22, 0, a0))), some (vI x1), some (vI x2), some (vI x3), none, none, none], [], (I, S)) r) (kf : xs0 ≠ 0 → Ev d mX12_years (14, [some (vR (some (22, 0, a0))), some (vI x1), some (vI x2), some (vI x3), none, none, none], [], (I, S)) r) : Ev d mX12_years (11, [some (vR (some (22, 0, a0))), some (vI x1), some (vI x2), some (vI x3), none, none, none], [vI xs0], (I, S)) r :=
  s_if_eq 29 rfl rfl kt kf
theorem b_X12_years_14 {d : Nat} {r : PO × PM} {I : Nat → Nat → Int} {S : PS} {a0 : Nat} {x1 x2 x3 z : Int} {I1 : Nat → Nat → Int} {S1 : PS} (c : Ca d mX12_within [vI x2, vI 0, vI 100] (I, S) (.inl (some (vI z))) (I1, S1)) (k : Ev (d + 1) mX12_years (22, [some (vR (some (22, 0, a0))), some (vI x1), some (vI x2), some (vI x3), none, none, none], [vI z, vR (some (22, 0, a0))], (I1, S1)) r) : Ev (d + 1) mX12_years (14, [some (vR (some (22, 0, a0))), some (vI x1), some (vI x2), some (vI x3), none, none, none], [], (I, S)) r :=
  s_aload_n rfl rfl rfl <|
  s_iload_n rfl rfl rfl <|
  s_iconst rfl rfl <|
  s_bipush rfl rfl <|
  s_csI rfl rfl rfl rfl rfl rfl c k
theorem b_X12_years_22 {d : Nat} {r : PO × PM} {I : Nat → Nat → Int} {S : PS} {a0 as0 : Nat} {x1 x2 x3 xs1 z : Int} {I1 : Nat → Nat → Int} {S1 : PS} (c : Ca d mX12_right [vR (some (22, 0, as0)), vI xs1, vI 2] (I, S) (.inl (some (vI z))) (I1, S1)) (k : Ev (d + 1) mX12_years (26, [some (vR (some (22, 0, a0))), some (vI x1), some (vI x2), some (vI x3), none, none, none], [vI z], (I1, S1)) r) : Ev (d + 1) mX12_years (22, [some (vR (some (22, 0, a0))), some (vI x1), some (vI x2), some (vI x3), none, none, none], [vI xs1, vR (some (22, 0, as0))], (I, S)) r :=
  s_iconst rfl rfl <|
  s_cvI rfl rfl rfl rfl rfl c k
theorem b_X12_years_26 {d : Nat} {r : PO × PM} {I : Nat → Nat → Int} {S : PS} {a0 : Nat} {x1 x2 x3 xs0 : Int} (kt : xs0 ≠ 0 → Ev d mX12_years (31, [some (vR (some (22, 0, a0))), some (vI x1), some (vI x2), some (vI x3), none, none, none], [], (I, S)) r) (kf : xs0 = 0 → Ev d mX12_years (29, [some (vR (some (22, 0, a0))), some (vI x1), some (vI x2), some (vI x3), none, none, none], [], (I, S)) r) : Ev d mX12_years (26, [some (vR (some (22, 0, a0))), some (vI x1), some (vI x2), some (vI x3), none, none, none], [vI xs0], (I, S)) r :=
  s_if_ne 31 rfl rfl kt kf
theorem b_X12_years_29 {d : Nat} {I : Nat → Nat → Int} {S : PS} {a0 : Nat} {x1 x2 x3 : Int} : Ev d mX12_years (29, [some (vR (some (22, 0, a0))), some (vI x1), some (vI x2), some (vI x3), none, none, none], [], (I, S)) (.inl (some (vI 0)), (I, S)) :=
  s_iconst rfl rfl <|
  s_ret rfl rfl
theorem b_X12_years_31 {d : Nat} {r : PO × PM} {I : Nat → Nat → Int} {S : PS} {a0 : Nat} {x1 x2 x3 : Int} {I1 : Nat → Nat → Int} {S1 : PS} (c : Ca d mX12_tries [vR (some (22, 0, a0))] (I, S) (.inl none) (I1, S1)) (k : Ev (d + 1) mX12_years (35, [some (vR (some (22, 0, a0))), some (vI x1), some (vI x2), some (vI x3), none, none, none], [], (I1, S1)) r) : Ev (d + 1) mX12_years (31, [some (vR (some (22, 0, a0))), some (vI x1), some (vI x2), some (vI x3), none, none, none], [], (I, S)) r :=
  s_aload_n rfl rfl rfl <|
  s_cvV rfl rfl rfl rfl rfl c k
theorem b_X12_years_35 {d : Nat} {r : PO × PM} {I : Nat → Nat → Int} {S : PS} {a0 : Nat} {x1 x2 x3 : Int} (k : Ev d mX12_years (46, [some (vR (some (22, 0, a0))), some (vI x1), some (vI x2), some (vI x3), some (vI 0), some (vI 0), none], [], ((up2 I a0 58 x1), S)) r) : Ev d mX12_years (35, [some (vR (some (22, 0, a0))), some (vI x1), some (vI x2), some (vI x3), none, none, none], [], (I, S)) r :=
  s_aload_n rfl rfl rfl <|
  s_iload_n rfl rfl rfl <|
  s_putI rfl rfl rfl <|
  s_iconst rfl rfl <|
  s_istore [some (vR (some (22, 0, a0))), some (vI x1), some (vI x2), some (vI x3), some (vI 0), none, none] rfl rfl <|
  s_iconst rfl rfl <|
  s_istore [some (vR (some (22, 0, a0))), some (vI x1), some (vI x2), some (vI x3), some (vI 0), some (vI 0), none] rfl rfl <|
  k
theorem b_X12_years_46 {d : Nat} {r : PO × PM} {I : Nat → Nat → Int} {S : PS} {a0 : Nat} {x1 x2 x3 x4 x5 : Int} (kt : x2 ≤ x5 → Ev d mX12_years (82, [some (vR (some (22, 0, a0))), some (vI x1), some (vI x2), some (vI x3), some (vI x4), some (vI x5), none], [], (I, S)) r) (kf : x5 < x2 → Ev d mX12_years (52, [some (vR (some (22, 0, a0))), some (vI x1), some (vI x2), some (vI x3), some (vI x4), some (vI x5), none], [], (I, S)) r) : Ev d mX12_years (46, [some (vR (some (22, 0, a0))), some (vI x1), some (vI x2), some (vI x3), some (vI x4), some (vI x5), none], [], (I, S)) r :=
  s_iload rfl rfl rfl <|
  s_iload_n rfl rfl rfl <|
  s_icmp_ge 82 rfl rfl kt kf
theorem b_X12_years_52 {d : Nat} {r : PO × PM} {I : Nat → Nat → Int} {S : PS} {a0 : Nat} {x1 x2 x3 x4 x5 : Int} (kt : I a0 15 ≤ 0 → Ev d mX12_years (82, [some (vR (some (22, 0, a0))), some (vI x1), some (vI x2), some (vI x3), some (vI x4), some (vI x5), none], [], (I, S)) r) (kf : 0 < I a0 15 → Ev d mX12_years (59, [some (vR (some (22, 0, a0))), some (vI x1), some (vI x2), some (vI x3), some (vI x4), some (vI x5), none], [], (I, S)) r) : Ev d mX12_years (52, [some (vR (some (22, 0, a0))), some (vI x1), some (vI x2), some (vI x3), some (vI x4), some (vI x5), none], [], (I, S)) r :=
  s_aload_n rfl rfl rfl <|
  s_getI rfl rfl rfl <|
  s_if_le 82 rfl rfl kt kf
theorem b_X12_years_59 {d : Nat} {r : PO × PM} {I : Nat → Nat → Int} {S : PS} {a0 : Nat} {x1 x2 x3 x4 x5 z : Int} {I1 : Nat → Nat → Int} {S1 : PS} (c : Ca d mX12_happens [vR (some (22, 0, a0))] (I, S) (.inl (some (vI z))) (I1, S1)) (k : Ev (d + 1) mX12_years (65, [some (vR (some (22, 0, a0))), some (vI x1), some (vI x2), some (vI x3), some (vI x4), some (vI x5), none], [vI z, vI x4], (I1, S1)) r) : Ev (d + 1) mX12_years (59, [some (vR (some (22, 0, a0))), some (vI x1), some (vI x2), some (vI x3), some (vI x4), some (vI x5), none], [], (I, S)) r :=
  s_iload rfl rfl rfl <|
  s_aload_n rfl rfl rfl <|
  s_cvI rfl rfl rfl rfl rfl c k
theorem b_X12_years_65 {d : Nat} {r : PO × PM} {I : Nat → Nat → Int} {S : PS} {a0 : Nat} {x1 x2 x3 x4 x5 xs0 xs1 : Int} (kt : xs1 = 0 → Ev d mX12_years (72, [some (vR (some (22, 0, a0))), some (vI x1), some (vI x2), some (vI x3), some (vI x4), some (vI x5), none], [vI xs0], (I, S)) r) (kf : xs1 ≠ 0 → Ev d mX12_years (68, [some (vR (some (22, 0, a0))), some (vI x1), some (vI x2), some (vI x3), some (vI x4), some (vI x5), none], [vI xs0], (I, S)) r) : Ev d mX12_years (65, [some (vR (some (22, 0, a0))), some (vI x1), some (vI x2), some (vI x3), some (vI x4), some (vI x5), none], [vI xs1, vI xs0], (I, S)) r :=
  s_if_eq 72 rfl rfl kt kf
theorem b_X12_years_68 {d : Nat} {r : PO × PM} {I : Nat → Nat → Int} {S : PS} {a0 : Nat} {x1 x2 x3 x4 x5 xs0 : Int} (k : Ev d mX12_years (73, [some (vR (some (22, 0, a0))), some (vI x1), some (vI x2), some (vI x3), some (vI x4), some (vI x5), none], [vI 1, vI xs0], (I, S)) r) : Ev d mX12_years (68, [some (vR (some (22, 0, a0))), some (vI x1), some (vI x2), some (vI x3), some (vI x4), some (vI x5), none], [vI xs0], (I, S)) r :=
  s_iconst rfl rfl <|
  s_goto 73 rfl rfl k
theorem b_X12_years_72 {d : Nat} {r : PO × PM} {I : Nat → Nat → Int} {S : PS} {a0 : Nat} {x1 x2 x3 x4 x5 xs0 : Int} (k : Ev d mX12_years (73, [some (vR (some (22, 0, a0))), some (vI x1), some (vI x2), some (vI x3), some (vI x4), some (vI x5), none], [vI 0, vI xs0], (I, S)) r) : Ev d mX12_years (72, [some (vR (some (22, 0, a0))), some (vI x1), some (vI x2), some (vI x3), some (vI x4), some (vI x5), none], [vI xs0], (I, S)) r :=
  s_iconst rfl rfl <|
  k
theorem b_X12_years_73 {d : Nat} {r : PO × PM} {I : Nat → Nat → Int} {S : PS} {a0 : Nat} {x1 x2 x3 x4 x5 xs0 xs1 : Int} (ho1 : -2147483648 ≤ xs0 + xs1 ∧ xs0 + xs1 ≤ 2147483647) (ho2 : -2147483648 ≤ x5 + 1 ∧ x5 + 1 ≤ 2147483647) (k : Ev d mX12_years (46, [some (vR (some (22, 0, a0))), some (vI x1), some (vI x2), some (vI x3), some (vI (xs0 + xs1)), some (vI (x5 + 1)), none], [], (I, S)) r) : Ev d mX12_years (73, [some (vR (some (22, 0, a0))), some (vI x1), some (vI x2), some (vI x3), some (vI x4), some (vI x5), none], [vI xs1, vI xs0], (I, S)) r :=
  s_iaddp rfl ho1 <|
  s_istore [some (vR (some (22, 0, a0))), some (vI x1), some (vI x2), some (vI x3), some (vI (xs0 + xs1)), some (vI x5), none] rfl rfl <|
  s_iincp [some (vR (some (22, 0, a0))), some (vI x1), some (vI x2), some (vI x3), some (vI (xs0 + xs1)), some (vI (x5 + 1)), none] rfl rfl ho2 rfl <|
  s_goto 46 rfl rfl k
theorem b_X12_years_82 {d : Nat} {r : PO × PM} {I : Nat → Nat → Int} {S : PS} {a0 : Nat} {x1 x2 x3 x4 x5 : Int} (k : Ev d mX12_years (88, [some (vR (some (22, 0, a0))), some (vI x1), some (vI x2), some (vI x3), some (vI x4), some (vI 0), some (vI 0)], [], (I, S)) r) : Ev d mX12_years (82, [some (vR (some (22, 0, a0))), some (vI x1), some (vI x2), some (vI x3), some (vI x4), some (vI x5), none], [], (I, S)) r :=
  s_iconst rfl rfl <|
  s_istore [some (vR (some (22, 0, a0))), some (vI x1), some (vI x2), some (vI x3), some (vI x4), some (vI 0), none] rfl rfl <|
  s_iconst rfl rfl <|
  s_istore [some (vR (some (22, 0, a0))), some (vI x1), some (vI x2), some (vI x3), some (vI x4), some (vI 0), some (vI 0)] rfl rfl <|
  k
theorem b_X12_years_88 {d : Nat} {r : PO × PM} {I : Nat → Nat → Int} {S : PS} {a0 : Nat} {x1 x2 x3 x4 x5 x6 : Int} (kt : I a0 15 ≤ x6 → Ev d mX12_years (138, [some (vR (some (22, 0, a0))), some (vI x1), some (vI x2), some (vI x3), some (vI x4), some (vI x5), some (vI x6)], [], (I, S)) r) (kf : x6 < I a0 15 → Ev d mX12_years (97, [some (vR (some (22, 0, a0))), some (vI x1), some (vI x2), some (vI x3), some (vI x4), some (vI x5), some (vI x6)], [], (I, S)) r) : Ev d mX12_years (88, [some (vR (some (22, 0, a0))), some (vI x1), some (vI x2), some (vI x3), some (vI x4), some (vI x5), some (vI x6)], [], (I, S)) r :=
  s_iload rfl rfl rfl <|
  s_aload_n rfl rfl rfl <|
  s_getI rfl rfl rfl <|
  s_icmp_ge 138 rfl rfl kt kf
theorem b_X12_years_97 {d : Nat} {r : PO × PM} {I : Nat → Nat → Int} {S : PS} {a0 p1 q1 : Nat} {x1 x2 x3 x4 x5 x6 : Int} (hr1 : S.1 a0 39 = some (0, q1, p1)) (ho2 : -2147483648 ≤ 18 + x6 ∧ 18 + x6 ≤ 2147483647) (hi3 : 0 ≤ 18 + x6 ∧ 18 + x6 < (q1 : Nat)) (kt : I p1 (18 + x6).toNat ≠ (-1) → Ev d mX12_years (117, [some (vR (some (22, 0, a0))), some (vI x1), some (vI x2), some (vI x3), some (vI x4), some (vI x5), some (vI x6)], [vI x5], (I, S)) r) (kf : I p1 (18 + x6).toNat = (-1) → Ev d mX12_years (113, [some (vR (some (22, 0, a0))), some (vI x1), some (vI x2), some (vI x3), some (vI x4), some (vI x5), some (vI x6)], [vI x5], (I, S)) r) : Ev d mX12_years (97, [some (vR (some (22, 0, a0))), some (vI x1), some (vI x2), some (vI x3), some (vI x4), some (vI x5), some (vI x6)], [], (I, S)) r :=
  s_iload rfl rfl rfl <|
  s_aload_n rfl rfl rfl <|
  s_getR rfl rfl rfl hr1 <|
  s_bipush rfl rfl <|
  s_iload rfl rfl rfl <|
  s_iaddp rfl ho2 <|
  s_iald rfl rfl hi3 <|
  s_iconst rfl rfl <|
  s_icmp_ne 117 rfl rfl kt kf
theorem b_X12_years_113 {d : Nat} {r : PO × PM} {I : Nat → Nat → Int} {S : PS} {a0 : Nat} {x1 x2 x3 x4 x5 x6 xs0 : Int} (k : Ev d mX12_years (129, [some (vR (some (22, 0, a0))), some (vI x1), some (vI x2), some (vI x3), some (vI x4), some (vI x5), some (vI x6)], [vI 0, vI xs0], (I, S)) r) : Ev d mX12_years (113, [some (vR (some (22, 0, a0))), some (vI x1), some (vI x2), some (vI x3), some (vI x4), some (vI x5), some (vI x6)], [vI xs0], (I, S)) r :=
  s_iconst rfl rfl <|
  s_goto 129 rfl rfl k
theorem b_X12_years_117 {d : Nat} {r : PO × PM} {I : Nat → Nat → Int} {S : PS} {a0 p1 q1 : Nat} {x1 x2 x3 x4 x5 x6 xs0 : Int} (hr1 : S.1 a0 39 = some (0, q1, p1)) (ho2 : -2147483648 ≤ 18 + x6 ∧ 18 + x6 ≤ 2147483647) (hi3 : 0 ≤ 18 + x6 ∧ 18 + x6 < (q1 : Nat)) (k : Ev d mX12_years (129, [some (vR (some (22, 0, a0))), some (vI x1), some (vI x2), some (vI x3), some (vI x4), some (vI x5), some (vI x6)], [vI (p_shl 1 (I p1 (18 + x6).toNat)), vI xs0], (I, S)) r) : Ev d mX12_years (117, [some (vR (some (22, 0, a0))), some (vI x1), some (vI x2), some (vI x3), some (vI x4), some (vI x5), some (vI x6)], [vI xs0], (I, S)) r :=
  s_iconst rfl rfl <|
  s_aload_n rfl rfl rfl <|
  s_getR rfl rfl rfl hr1 <|
  s_bipush rfl rfl <|
  s_iload rfl rfl rfl <|
  s_iaddp rfl ho2 <|
  s_iald rfl rfl hi3 <|
  s_ishl rfl <|
  k
theorem b_X12_years_129 {d : Nat} {r : PO × PM} {I : Nat → Nat → Int} {S : PS} {a0 : Nat} {x1 x2 x3 x4 x5 x6 xs0 xs1 : Int} (ho1 : -2147483648 ≤ x6 + 1 ∧ x6 + 1 ≤ 2147483647) (k : Ev d mX12_years (88, [some (vR (some (22, 0, a0))), some (vI x1), some (vI x2), some (vI x3), some (vI x4), some (vI (p_or xs0 xs1)), some (vI (x6 + 1))], [], (I, S)) r) : Ev d mX12_years (129, [some (vR (some (22, 0, a0))), some (vI x1), some (vI x2), some (vI x3), some (vI x4), some (vI x5), some (vI x6)], [vI xs1, vI xs0], (I, S)) r :=
  s_ior rfl <|
  s_istore [some (vR (some (22, 0, a0))), some (vI x1), some (vI x2), some (vI x3), some (vI x4), some (vI (p_or xs0 xs1)), some (vI x6)] rfl rfl <|
  s_iincp [some (vR (some (22, 0, a0))), some (vI x1), some (vI x2), some (vI x3), some (vI x4), some (vI (p_or xs0 xs1)), some (vI (x6 + 1))] rfl rfl ho1 rfl <|
  s_goto 88 rfl rfl k
theorem b_X12_years_138 {d : Nat} {r : PO × PM} {I : Nat → Nat → Int} {S : PS} {a0 : Nat} {x1 x2 x3 x4 x5 x6 : Int} (kt : x3 ≠ 0 → Ev d mX12_years (151, [some (vR (some (22, 0, a0))), some (vI x1), some (vI x2), some (vI x3), some (vI x4), some (vI x5), some (vI x6)], [], (I, S)) r) (kf : x3 = 0 → Ev d mX12_years (142, [some (vR (some (22, 0, a0))), some (vI x1), some (vI x2), some (vI x3), some (vI x4), some (vI x5), some (vI x6)], [], (I, S)) r) : Ev d mX12_years (138, [some (vR (some (22, 0, a0))), some (vI x1), some (vI x2), some (vI x3), some (vI x4), some (vI x5), some (vI x6)], [], (I, S)) r :=
  s_iload_n rfl rfl rfl <|
  s_if_ne 151 rfl rfl kt kf
theorem b_X12_years_142 {d : Nat} {r : PO × PM} {I : Nat → Nat → Int} {S : PS} {a0 : Nat} {x1 x2 x3 x4 x5 x6 z : Int} {I1 : Nat → Nat → Int} {S1 : PS} (c : Ca d mX12_painted [vR (some (22, 0, a0)), vI 18] (I, S) (.inl (some (vI z))) (I1, S1)) (k : Ev (d + 1) mX12_years (148, [some (vR (some (22, 0, a0))), some (vI x1), some (vI x2), some (vI x3), some (vI x4), some (vI x5), some (vI x6)], [vI z], (I1, S1)) r) : Ev (d + 1) mX12_years (142, [some (vR (some (22, 0, a0))), some (vI x1), some (vI x2), some (vI x3), some (vI x4), some (vI x5), some (vI x6)], [], (I, S)) r :=
  s_aload_n rfl rfl rfl <|
  s_bipush rfl rfl <|
  s_cvI rfl rfl rfl rfl rfl c k
theorem b_X12_years_148 {d : Nat} {r : PO × PM} {I : Nat → Nat → Int} {S : PS} {a0 : Nat} {x1 x2 x3 x4 x5 x6 xs0 : Int} (k : Ev d mX12_years (166, [some (vR (some (22, 0, a0))), some (vI x1), some (vI x2), some (vI x3), some (vI x4), some (vI x5), some (vI x6)], [vI xs0], (I, S)) r) : Ev d mX12_years (148, [some (vR (some (22, 0, a0))), some (vI x1), some (vI x2), some (vI x3), some (vI x4), some (vI x5), some (vI x6)], [vI xs0], (I, S)) r :=
  s_goto 166 rfl rfl k
theorem b_X12_years_151 {d : Nat} {r : PO × PM} {I : Nat → Nat → Int} {S : PS} {a0 : Nat} {x1 x2 x3 x4 x5 x6 : Int} (kt : x3 ≠ 1 → Ev d mX12_years (161, [some (vR (some (22, 0, a0))), some (vI x1), some (vI x2), some (vI x3), some (vI x4), some (vI x5), some (vI x6)], [], (I, S)) r) (kf : x3 = 1 → Ev d mX12_years (156, [some (vR (some (22, 0, a0))), some (vI x1), some (vI x2), some (vI x3), some (vI x4), some (vI x5), some (vI x6)], [], (I, S)) r) : Ev d mX12_years (151, [some (vR (some (22, 0, a0))), some (vI x1), some (vI x2), some (vI x3), some (vI x4), some (vI x5), some (vI x6)], [], (I, S)) r :=
  s_iload_n rfl rfl rfl <|
  s_iconst rfl rfl <|
  s_icmp_ne 161 rfl rfl kt kf
theorem b_X12_years_156 {d : Nat} {r : PO × PM} {I : Nat → Nat → Int} {S : PS} {a0 : Nat} {x1 x2 x3 x4 x5 x6 : Int} (k : Ev d mX12_years (166, [some (vR (some (22, 0, a0))), some (vI x1), some (vI x2), some (vI x3), some (vI x4), some (vI x5), some (vI x6)], [vI x4], (I, S)) r) : Ev d mX12_years (156, [some (vR (some (22, 0, a0))), some (vI x1), some (vI x2), some (vI x3), some (vI x4), some (vI x5), some (vI x6)], [], (I, S)) r :=
  s_iload rfl rfl rfl <|
  s_goto 166 rfl rfl k
theorem b_X12_years_161 {d : Nat} {r : PO × PM} {I : Nat → Nat → Int} {S : PS} {a0 : Nat} {x1 x2 x3 x4 x5 x6 z : Int} {I1 : Nat → Nat → Int} {S1 : PS} (c : Ca d mX12_bits [vI x5] (I, S) (.inl (some (vI z))) (I1, S1)) (k : Ev (d + 1) mX12_years (166, [some (vR (some (22, 0, a0))), some (vI x1), some (vI x2), some (vI x3), some (vI x4), some (vI x5), some (vI x6)], [vI z], (I1, S1)) r) : Ev (d + 1) mX12_years (161, [some (vR (some (22, 0, a0))), some (vI x1), some (vI x2), some (vI x3), some (vI x4), some (vI x5), some (vI x6)], [], (I, S)) r :=
  s_iload rfl rfl rfl <|
  s_csI rfl rfl rfl rfl rfl rfl c k
theorem b_X12_years_166 {d : Nat} {I : Nat → Nat → Int} {S : PS} {a0 : Nat} {x1 x2 x3 x4 x5 x6 xs0 : Int} : Ev d mX12_years (166, [some (vR (some (22, 0, a0))), some (vI x1), some (vI x2), some (vI x3), some (vI x4), some (vI x5), some (vI x6)], [vI xs0], (I, S)) (.inl (some (vI xs0)), (I, S)) :=
  s_ret rfl rfl
theorem b_X12_image_0 {d : Nat} {r : PO × PM} {I : Nat → Nat → Int} {S : PS} {a0 : Nat} (k : Ev d mX12_image (28, [some (vR (some (22, 0, a0))), some (vI 0)], [], ((up2 (up2 (up2 (up2 I a0 0 0) a0 59 1) a0 60 ((up2 (up2 I a0 0 0) a0 59 1) a0 41)) a0 61 ((up2 (up2 (up2 I a0 0 0) a0 59 1) a0 60 ((up2 (up2 I a0 0 0) a0 59 1) a0 41)) a0 56)), S)) r) : Ev d mX12_image (0, [some (vR (some (22, 0, a0))), none], [], (I, S)) r :=
  s_aload_n rfl rfl rfl <|
  s_iconst rfl rfl <|
  s_putI rfl rfl rfl <|
  s_aload_n rfl rfl rfl <|
  s_iconst rfl rfl <|
  s_putZ rfl rfl rfl (Or.inr rfl) <|
  s_aload_n rfl rfl rfl <|
  s_aload_n rfl rfl rfl <|
  s_getI rfl rfl rfl <|
  s_putI rfl rfl rfl <|
  s_aload_n rfl rfl rfl <|
  s_aload_n rfl rfl rfl <|
  s_getI rfl rfl rfl <|
  s_putI rfl rfl rfl <|
  s_iconst rfl rfl <|
  s_istore_n [some (vR (some (22, 0, a0))), some (vI 0)] rfl rfl <|
  k
theorem b_X12_image_28 {d : Nat} {r : PO × PM} {I : Nat → Nat → Int} {S : PS} {a0 : Nat} {x1 : Int} (kt : 18 ≤ x1 → Ev d mX12_image (52, [some (vR (some (22, 0, a0))), some (vI x1)], [], (I, S)) r) (kf : x1 < 18 → Ev d mX12_image (34, [some (vR (some (22, 0, a0))), some (vI x1)], [], (I, S)) r) : Ev d mX12_image (28, [some (vR (some (22, 0, a0))), some (vI x1)], [], (I, S)) r :=
  s_iload_n rfl rfl rfl <|
  s_bipush rfl rfl <|
  s_icmp_ge 52 rfl rfl kt kf
theorem b_X12_image_34 {d : Nat} {r : PO × PM} {I : Nat → Nat → Int} {S : PS} {a0 p1 q1 p2 q2 : Nat} {x1 : Int} (hr1 : S.1 a0 62 = some (0, q1, p1)) (hr2 : S.1 a0 39 = some (0, q2, p2)) (hi3 : 0 ≤ x1 ∧ x1 < (q2 : Nat)) (hi4 : 0 ≤ x1 ∧ x1 < (q1 : Nat)) (ho5 : -2147483648 ≤ x1 + 1 ∧ x1 + 1 ≤ 2147483647) (k : Ev d mX12_image (28, [some (vR (some (22, 0, a0))), some (vI (x1 + 1))], [], ((up2 I p1 (x1.toNat) (I p2 x1.toNat)), S)) r) : Ev d mX12_image (34, [some (vR (some (22, 0, a0))), some (vI x1)], [], (I, S)) r :=
  s_aload_n rfl rfl rfl <|
  s_getR rfl rfl rfl hr1 <|
  s_iload_n rfl rfl rfl <|
  s_aload_n rfl rfl rfl <|
  s_getR rfl rfl rfl hr2 <|
  s_iload_n rfl rfl rfl <|
  s_iald rfl rfl hi3 <|
  s_iast rfl hi4 <|
  s_iincp [some (vR (some (22, 0, a0))), some (vI (x1 + 1))] rfl rfl ho5 rfl <|
  s_goto 28 rfl rfl k
theorem b_X12_image_52 {d : Nat} {r : PO × PM} {I : Nat → Nat → Int} {S : PS} {a0 p1 q1 p2 q2 : Nat} {x1 : Int} {I1 : Nat → Nat → Int} {S1 : PS} (hr1 : S.1 a0 40 = some (0, q1, p1)) (hr2 : S.1 a0 63 = some (0, q2, p2)) (c : Ca d mX12_copies [vR (some (22, 0, a0)), vR (some (0, q1, p1)), vR (some (0, q2, p2))] (I, S) (.inl none) (I1, S1)) (k : Ev (d + 1) mX12_image (64, [some (vR (some (22, 0, a0))), some (vI x1)], [], (I1, S1)) r) : Ev (d + 1) mX12_image (52, [some (vR (some (22, 0, a0))), some (vI x1)], [], (I, S)) r :=
  s_aload_n rfl rfl rfl <|
  s_aload_n rfl rfl rfl <|
  s_getR rfl rfl rfl hr1 <|
  s_aload_n rfl rfl rfl <|
  s_getR rfl rfl rfl hr2 <|
  s_cvV rfl rfl rfl rfl rfl c k
theorem b_X12_image_64 {d : Nat} {r : PO × PM} {I : Nat → Nat → Int} {S : PS} {a0 p1 q1 p2 q2 : Nat} {x1 : Int} {I1 : Nat → Nat → Int} {S1 : PS} (hr1 : S.1 a0 57 = some (0, q1, p1)) (hr2 : S.1 a0 64 = some (0, q2, p2)) (c : Ca d mX12_copies [vR (some (22, 0, a0)), vR (some (0, q1, p1)), vR (some (0, q2, p2))] (I, S) (.inl none) (I1, S1)) (k : Ev (d + 1) mX12_image (76, [some (vR (some (22, 0, a0))), some (vI x1)], [], (I1, S1)) r) : Ev (d + 1) mX12_image (64, [some (vR (some (22, 0, a0))), some (vI x1)], [], (I, S)) r :=
  s_aload_n rfl rfl rfl <|
  s_aload_n rfl rfl rfl <|
  s_getR rfl rfl rfl hr1 <|
  s_aload_n rfl rfl rfl <|
  s_getR rfl rfl rfl hr2 <|
  s_cvV rfl rfl rfl rfl rfl c k
theorem b_X12_image_76 {d : Nat} {I : Nat → Nat → Int} {S : PS} {a0 : Nat} {x1 : Int} : Ev d mX12_image (76, [some (vR (some (22, 0, a0))), some (vI x1)], [], (I, S)) (.inl none, (I, S)) :=
  s_vret rfl rfl
theorem b_X12_restore_0 {d : Nat} {r : PO × PM} {I : Nat → Nat → Int} {S : PS} {a0 : Nat} (kt : (up2 I a0 0 0) a0 59 ≠ 0 → Ev d mX12_restore (14, [some (vR (some (22, 0, a0))), none], [], ((up2 I a0 0 0), S)) r) (kf : (up2 I a0 0 0) a0 59 = 0 → Ev d mX12_restore (12, [some (vR (some (22, 0, a0))), none], [], ((up2 I a0 0 0), S)) r) : Ev d mX12_restore (0, [some (vR (some (22, 0, a0))), none], [], (I, S)) r :=
  s_aload_n rfl rfl rfl <|
  s_iconst rfl rfl <|
  s_putI rfl rfl rfl <|
  s_aload_n rfl rfl rfl <|
  s_getI rfl rfl rfl <|
  s_if_ne 14 rfl rfl kt kf
theorem b_X12_restore_12 {d : Nat} {I : Nat → Nat → Int} {S : PS} {a0 : Nat} : Ev d mX12_restore (12, [some (vR (some (22, 0, a0))), none], [], (I, S)) (.inl (some (vI 0)), (I, S)) :=
  s_iconst rfl rfl <|
  s_ret rfl rfl
theorem b_X12_restore_14 {d : Nat} {r : PO × PM} {I : Nat → Nat → Int} {S : PS} {a0 : Nat} (k : Ev d mX12_restore (32, [some (vR (some (22, 0, a0))), some (vI 0)], [], ((up2 (up2 I a0 41 (I a0 60)) a0 56 ((up2 I a0 41 (I a0 60)) a0 61)), S)) r) : Ev d mX12_restore (14, [some (vR (some (22, 0, a0))), none], [], (I, S)) r :=
  s_aload_n rfl rfl rfl <|
  s_aload_n rfl rfl rfl <|
  s_getI rfl rfl rfl <|
  s_putI rfl rfl rfl <|
  s_aload_n rfl rfl rfl <|
  s_aload_n rfl rfl rfl <|
  s_getI rfl rfl rfl <|
  s_putI rfl rfl rfl <|
  s_iconst rfl rfl <|
  s_istore_n [some (vR (some (22, 0, a0))), some (vI 0)] rfl rfl <|
  k
theorem b_X12_restore_32 {d : Nat} {r : PO × PM} {I : Nat → Nat → Int} {S : PS} {a0 : Nat} {x1 : Int} (kt : 18 ≤ x1 → Ev d mX12_restore (56, [some (vR (some (22, 0, a0))), some (vI x1)], [], (I, S)) r) (kf : x1 < 18 → Ev d mX12_restore (38, [some (vR (some (22, 0, a0))), some (vI x1)], [], (I, S)) r) : Ev d mX12_restore (32, [some (vR (some (22, 0, a0))), some (vI x1)], [], (I, S)) r :=
  s_iload_n rfl rfl rfl <|
  s_bipush rfl rfl <|
  s_icmp_ge 56 rfl rfl kt kf
theorem b_X12_restore_38 {d : Nat} {r : PO × PM} {I : Nat → Nat → Int} {S : PS} {a0 p1 q1 p2 q2 : Nat} {x1 : Int} (hr1 : S.1 a0 39 = some (0, q1, p1)) (hr2 : S.1 a0 62 = some (0, q2, p2)) (hi3 : 0 ≤ x1 ∧ x1 < (q2 : Nat)) (hi4 : 0 ≤ x1 ∧ x1 < (q1 : Nat)) (ho5 : -2147483648 ≤ x1 + 1 ∧ x1 + 1 ≤ 2147483647) (k : Ev d mX12_restore (32, [some (vR (some (22, 0, a0))), some (vI (x1 + 1))], [], ((up2 I p1 (x1.toNat) (I p2 x1.toNat)), S)) r) : Ev d mX12_restore (38, [some (vR (some (22, 0, a0))), some (vI x1)], [], (I, S)) r :=
  s_aload_n rfl rfl rfl <|
  s_getR rfl rfl rfl hr1 <|
  s_iload_n rfl rfl rfl <|
  s_aload_n rfl rfl rfl <|
  s_getR rfl rfl rfl hr2 <|
  s_iload_n rfl rfl rfl <|
  s_iald rfl rfl hi3 <|
  s_iast rfl hi4 <|
  s_iincp [some (vR (some (22, 0, a0))), some (vI (x1 + 1))] rfl rfl ho5 rfl <|
  s_goto 32 rfl rfl k
theorem b_X12_restore_56 {d : Nat} {r : PO × PM} {I : Nat → Nat → Int} {S : PS} {a0 p1 q1 p2 q2 : Nat} {x1 : Int} {I1 : Nat → Nat → Int} {S1 : PS} (hr1 : S.1 a0 63 = some (0, q1, p1)) (hr2 : S.1 a0 40 = some (0, q2, p2)) (c : Ca d mX12_copies [vR (some (22, 0, a0)), vR (some (0, q1, p1)), vR (some (0, q2, p2))] (I, S) (.inl none) (I1, S1)) (k : Ev (d + 1) mX12_restore (68, [some (vR (some (22, 0, a0))), some (vI x1)], [], (I1, S1)) r) : Ev (d + 1) mX12_restore (56, [some (vR (some (22, 0, a0))), some (vI x1)], [], (I, S)) r :=
  s_aload_n rfl rfl rfl <|
  s_aload_n rfl rfl rfl <|
  s_getR rfl rfl rfl hr1 <|
  s_aload_n rfl rfl rfl <|
  s_getR rfl rfl rfl hr2 <|
  s_cvV rfl rfl rfl rfl rfl c k
theorem b_X12_restore_68 {d : Nat} {r : PO × PM} {I : Nat → Nat → Int} {S : PS} {a0 p1 q1 p2 q2 : Nat} {x1 : Int} {I1 : Nat → Nat → Int} {S1 : PS} (hr1 : S.1 a0 64 = some (0, q1, p1)) (hr2 : S.1 a0 57 = some (0, q2, p2)) (c : Ca d mX12_copies [vR (some (22, 0, a0)), vR (some (0, q1, p1)), vR (some (0, q2, p2))] (I, S) (.inl none) (I1, S1)) (k : Ev (d + 1) mX12_restore (80, [some (vR (some (22, 0, a0))), some (vI x1)], [], (I1, S1)) r) : Ev (d + 1) mX12_restore (68, [some (vR (some (22, 0, a0))), some (vI x1)], [], (I, S)) r :=
  s_aload_n rfl rfl rfl <|
  s_aload_n rfl rfl rfl <|
  s_getR rfl rfl rfl hr1 <|
  s_aload_n rfl rfl rfl <|
  s_getR rfl rfl rfl hr2 <|
  s_cvV rfl rfl rfl rfl rfl c k
theorem b_X12_restore_80 {d : Nat} {I : Nat → Nat → Int} {S : PS} {a0 : Nat} {x1 : Int} : Ev d mX12_restore (80, [some (vR (some (22, 0, a0))), some (vI x1)], [], (I, S)) (.inl (some (vI 1)), (I, S)) :=
  s_iconst rfl rfl <|
  s_ret rfl rfl
end
