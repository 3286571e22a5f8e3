noncomputable section
theorem b_X12_firsts_0 {d : Nat} {I : Nat → Nat → Int} {S : PS} {a0 : Nat} (ho1 : -2147483648 ≤ I a0 37 + 1 ∧ I a0 37 + 1 ≤ 2147483647) (hd2 : (0 ≤ I a0 37 + 1 ∧ I a0 37 + 1 ≤ 2147483647) ∧ 0 < (2 : Int) ∧ (2 : Int) ≤ 2147483647) : Ev d mX12_firsts (0, [some (vR (some (22, 0, a0)))], [], (I, S)) (.inl (some (vI ((I a0 37 + 1) / 2))), (I, S)) :=
  s_aload_n rfl rfl rfl <|
  s_getI rfl rfl rfl <|
  s_iconst rfl rfl <|
  s_iaddp rfl ho1 <|
  s_iconst rfl rfl <|
  s_idivp rfl hd2 <|
  s_ret rfl rfl
theorem b_X12_isFence_0 {d : Nat} {r : PO × PM} {I : Nat → Nat → Int} {S : PS} {a0 : Nat} {x1 : Int} (k : Ev d mX12_isFence (7, [some (vR (some (22, 0, a0))), some (vI x1), some (vI x1), some (vI 0), some (vI 0), none], [], (I, S)) r) : Ev d mX12_isFence (0, [some (vR (some (22, 0, a0))), some (vI x1), none, none, none, none], [], (I, S)) r :=
  s_iload_n rfl rfl rfl <|
  s_istore_n [some (vR (some (22, 0, a0))), some (vI x1), some (vI x1), none, none, none] rfl rfl <|
  s_iconst rfl rfl <|
  s_istore_n [some (vR (some (22, 0, a0))), some (vI x1), some (vI x1), some (vI 0), none, none] rfl rfl <|
  s_iconst rfl rfl <|
  s_istore [some (vR (some (22, 0, a0))), some (vI x1), some (vI x1), some (vI 0), some (vI 0), none] rfl rfl <|
  k
theorem b_X12_isFence_7 {d : Nat} {r : PO × PM} {I : Nat → Nat → Int} {S : PS} {a0 : Nat} {x1 x2 x3 x4 z : Int} {I1 : Nat → Nat → Int} {S1 : PS} (c : Ca d mX12_firsts [vR (some (22, 0, a0))] (I, S) (.inl (some (vI z))) (I1, S1)) (k : Ev (d + 1) mX12_isFence (13, [some (vR (some (22, 0, a0))), some (vI x1), some (vI x2), some (vI x3), some (vI x4), none], [vI z, vI x4], (I1, S1)) r) : Ev (d + 1) mX12_isFence (7, [some (vR (some (22, 0, a0))), some (vI x1), some (vI x2), some (vI x3), some (vI x4), none], [], (I, S)) r :=
  s_iload rfl rfl rfl <|
  s_aload_n rfl rfl rfl <|
  s_cvI rfl rfl rfl rfl rfl c k
theorem b_X12_isFence_13 {d : Nat} {r : PO × PM} {I : Nat → Nat → Int} {S : PS} {a0 : Nat} {x1 x2 x3 x4 xs0 xs1 : Int} (kt : xs1 ≤ xs0 → Ev d mX12_isFence (64, [some (vR (some (22, 0, a0))), some (vI x1), some (vI x2), some (vI x3), some (vI x4), none], [], (I, S)) r) (kf : xs0 < xs1 → Ev d mX12_isFence (16, [some (vR (some (22, 0, a0))), some (vI x1), some (vI x2), some (vI x3), some (vI x4), none], [], (I, S)) r) : Ev d mX12_isFence (13, [some (vR (some (22, 0, a0))), some (vI x1), some (vI x2), some (vI x3), some (vI x4), none], [vI xs1, vI xs0], (I, S)) r :=
  s_icmp_ge 64 rfl rfl kt kf
theorem b_X12_isFence_16 {d : Nat} {r : PO × PM} {I : Nat → Nat → Int} {S : PS} {a0 : Nat} {x1 x2 x3 x4 : Int} (hd1 : (0 ≤ x2 ∧ x2 ≤ 2147483647) ∧ 0 < (4 : Int) ∧ (4 : Int) ≤ 2147483647) (hd2 : (0 ≤ x2 ∧ x2 ≤ 2147483647) ∧ 0 < (4 : Int) ∧ (4 : Int) ≤ 2147483647) (kt : x2 % 4 ≤ x3 → Ev d mX12_isFence (33, [some (vR (some (22, 0, a0))), some (vI x1), some (vI (x2 / 4)), some (vI x3), some (vI x4), some (vI (x2 % 4))], [], (I, S)) r) (kf : x3 < x2 % 4 → Ev d mX12_isFence (31, [some (vR (some (22, 0, a0))), some (vI x1), some (vI (x2 / 4)), some (vI x3), some (vI x4), some (vI (x2 % 4))], [], (I, S)) r) : Ev d mX12_isFence (16, [some (vR (some (22, 0, a0))), some (vI x1), some (vI x2), some (vI x3), some (vI x4), none], [], (I, S)) r :=
  s_iload_n rfl rfl rfl <|
  s_iconst rfl rfl <|
  s_iremp rfl hd1 <|
  s_istore [some (vR (some (22, 0, a0))), some (vI x1), some (vI x2), some (vI x3), some (vI x4), some (vI (x2 % 4))] rfl rfl <|
  s_iload_n rfl rfl rfl <|
  s_iconst rfl rfl <|
  s_idivp rfl hd2 <|
  s_istore_n [some (vR (some (22, 0, a0))), some (vI x1), some (vI (x2 / 4)), some (vI x3), some (vI x4), some (vI (x2 % 4))] rfl rfl <|
  s_iload rfl rfl rfl <|
  s_iload_n rfl rfl rfl <|
  s_icmp_le 33 rfl rfl kt kf
theorem b_X12_isFence_31 {d : Nat} {I : Nat → Nat → Int} {S : PS} {a0 : Nat} {x1 x2 x3 x4 x5 : Int} : Ev d mX12_isFence (31, [some (vR (some (22, 0, a0))), some (vI x1), some (vI x2), some (vI x3), some (vI x4), some (vI x5)], [], (I, S)) (.inl (some (vI 0)), (I, S)) :=
  s_iconst rfl rfl <|
  s_ret rfl rfl
theorem b_X12_isFence_33 {d : Nat} {r : PO × PM} {I : Nat → Nat → Int} {S : PS} {a0 : Nat} {x1 x2 x3 x4 x5 : Int} (kt : x5 ≠ x3 → Ev d mX12_isFence (45, [some (vR (some (22, 0, a0))), some (vI x1), some (vI x2), some (vI x3), some (vI x4), some (vI x5)], [], (I, S)) r) (kf : x5 = x3 → Ev d mX12_isFence (39, [some (vR (some (22, 0, a0))), some (vI x1), some (vI x2), some (vI x3), some (vI x4), some (vI x5)], [], (I, S)) r) : Ev d mX12_isFence (33, [some (vR (some (22, 0, a0))), some (vI x1), some (vI x2), some (vI x3), some (vI x4), some (vI x5)], [], (I, S)) r :=
  s_iload rfl rfl rfl <|
  s_iload_n rfl rfl rfl <|
  s_icmp_ne 45 rfl rfl kt kf
theorem b_X12_isFence_39 {d : Nat} {r : PO × PM} {I : Nat → Nat → Int} {S : PS} {a0 : Nat} {x1 x2 x3 x4 x5 : Int} (ho1 : -2147483648 ≤ x3 + 1 ∧ x3 + 1 ≤ 2147483647) (k : Ev d mX12_isFence (46, [some (vR (some (22, 0, a0))), some (vI x1), some (vI x2), some (vI x3), some (vI x4), some (vI x5)], [vI (x3 + 1)], (I, S)) r) : Ev d mX12_isFence (39, [some (vR (some (22, 0, a0))), some (vI x1), some (vI x2), some (vI x3), some (vI x4), some (vI x5)], [], (I, S)) r :=
  s_iload_n rfl rfl rfl <|
  s_iconst rfl rfl <|
  s_iaddp rfl ho1 <|
  s_goto 46 rfl rfl k
theorem b_X12_isFence_45 {d : Nat} {r : PO × PM} {I : Nat → Nat → Int} {S : PS} {a0 : Nat} {x1 x2 x3 x4 x5 : Int} (k : Ev d mX12_isFence (46, [some (vR (some (22, 0, a0))), some (vI x1), some (vI x2), some (vI x3), some (vI x4), some (vI x5)], [vI x3], (I, S)) r) : Ev d mX12_isFence (45, [some (vR (some (22, 0, a0))), some (vI x1), some (vI x2), some (vI x3), some (vI x4), some (vI x5)], [], (I, S)) r :=
  s_iload_n rfl rfl rfl <|
  k
theorem b_X12_isFence_46 {d : Nat} {r : PO × PM} {I : Nat → Nat → Int} {S : PS} {a0 p1 q1 : Nat} {x1 x2 x3 x4 x5 xs0 : Int} (hr1 : S.1 a0 36 = some (0, q1, p1)) (ho2 : -2147483648 ≤ 2 * x4 ∧ 2 * x4 ≤ 2147483647) (hi3 : 0 ≤ 2 * x4 ∧ 2 * x4 < (q1 : Nat)) (ho4 : -2147483648 ≤ x4 + 1 ∧ x4 + 1 ≤ 2147483647) (k : Ev d mX12_isFence (7, [some (vR (some (22, 0, a0))), some (vI x1), some (vI x2), some (vI xs0), some (vI (x4 + 1)), none], [], ((up2 I p1 ((2 * x4).toNat) x5), S)) r) : Ev d mX12_isFence (46, [some (vR (some (22, 0, a0))), some (vI x1), some (vI x2), some (vI x3), some (vI x4), some (vI x5)], [vI xs0], (I, S)) r :=
  s_istore_n [some (vR (some (22, 0, a0))), some (vI x1), some (vI x2), some (vI xs0), some (vI x4), some (vI x5)] rfl rfl <|
  s_aload_n rfl rfl rfl <|
  s_getR rfl rfl rfl hr1 <|
  s_iconst rfl rfl <|
  s_iload rfl rfl rfl <|
  s_imulp rfl ho2 <|
  s_iload rfl rfl rfl <|
  s_iast rfl hi3 <|
  s_iincp [some (vR (some (22, 0, a0))), some (vI x1), some (vI x2), some (vI xs0), some (vI (x4 + 1)), some (vI x5)] rfl rfl ho4 rfl <|
  s_goto 7 rfl rfl (ev_forget [false, false, false, false, false, true] rfl k)
theorem b_X12_isFence_64 {d : Nat} {r : PO × PM} {I : Nat → Nat → Int} {S : PS} {a0 : Nat} {x1 x2 x3 x4 : Int} (kt : x2 ≤ 0 → Ev d mX12_isFence (70, [some (vR (some (22, 0, a0))), some (vI x1), some (vI x2), some (vI x3), some (vI x4), none], [], (I, S)) r) (kf : 0 < x2 → Ev d mX12_isFence (68, [some (vR (some (22, 0, a0))), some (vI x1), some (vI x2), some (vI x3), some (vI x4), none], [], (I, S)) r) : Ev d mX12_isFence (64, [some (vR (some (22, 0, a0))), some (vI x1), some (vI x2), some (vI x3), some (vI x4), none], [], (I, S)) r :=
  s_iload_n rfl rfl rfl <|
  s_if_le 70 rfl rfl kt kf
theorem b_X12_isFence_68 {d : Nat} {I : Nat → Nat → Int} {S : PS} {a0 : Nat} {x1 x2 x3 x4 : Int} : Ev d mX12_isFence (68, [some (vR (some (22, 0, a0))), some (vI x1), some (vI x2), some (vI x3), some (vI x4), none], [], (I, S)) (.inl (some (vI 0)), (I, S)) :=
  s_iconst rfl rfl <|
  s_ret rfl rfl
theorem b_X12_isFence_70 {d : Nat} {r : PO × PM} {I : Nat → Nat → Int} {S : PS} {a0 : Nat} {x1 x2 x3 x4 : Int} (k : Ev d mX12_isFence (73, [some (vR (some (22, 0, a0))), some (vI x1), some (vI x2), some (vI x3), some (vI 0), none], [], (I, S)) r) : Ev d mX12_isFence (70, [some (vR (some (22, 0, a0))), some (vI x1), some (vI x2), some (vI x3), some (vI x4), none], [], (I, S)) r :=
  s_iconst rfl rfl <|
  s_istore [some (vR (some (22, 0, a0))), some (vI x1), some (vI x2), some (vI x3), some (vI 0), none] rfl rfl <|
  k
theorem b_X12_isFence_73 {d : Nat} {r : PO × PM} {I : Nat → Nat → Int} {S : PS} {a0 : Nat} {x1 x2 x3 x4 : Int} (ho1 : -2147483648 ≤ 2 * x4 ∧ 2 * x4 ≤ 2147483647) (ho2 : -2147483648 ≤ (2 * x4) + 1 ∧ (2 * x4) + 1 ≤ 2147483647) (kt : I a0 37 ≤ (2 * x4) + 1 → Ev d mX12_isFence (157, [some (vR (some (22, 0, a0))), some (vI x1), some (vI x2), some (vI x3), some (vI x4), none], [], (I, S)) r) (kf : (2 * x4) + 1 < I a0 37 → Ev d mX12_isFence (86, [some (vR (some (22, 0, a0))), some (vI x1), some (vI x2), some (vI x3), some (vI x4), none], [], (I, S)) r) : Ev d mX12_isFence (73, [some (vR (some (22, 0, a0))), some (vI x1), some (vI x2), some (vI x3), some (vI x4), none], [], (I, S)) r :=
  s_iconst rfl rfl <|
  s_iload rfl rfl rfl <|
  s_imulp rfl ho1 <|
  s_iconst rfl rfl <|
  s_iaddp rfl ho2 <|
  s_aload_n rfl rfl rfl <|
  s_getI rfl rfl rfl <|
  s_icmp_ge 157 rfl rfl kt kf
theorem b_X12_isFence_86 {d : Nat} {r : PO × PM} {I : Nat → Nat → Int} {S : PS} {a0 p1 q1 : Nat} {x1 x2 x3 x4 : Int} (hr1 : S.1 a0 36 = some (0, q1, p1)) (ho2 : -2147483648 ≤ 2 * x4 ∧ 2 * x4 ≤ 2147483647) (ho3 : -2147483648 ≤ (2 * x4) + 1 ∧ (2 * x4) + 1 ≤ 2147483647) (ho4 : -2147483648 ≤ 4 + x4 ∧ 4 + x4 ≤ 2147483647) (hi5 : 0 ≤ (2 * x4) + 1 ∧ (2 * x4) + 1 < (q1 : Nat)) (ho6 : -2147483648 ≤ x4 - 1 ∧ x4 - 1 ≤ 2147483647) (k : Ev d mX12_isFence (107, [some (vR (some (22, 0, a0))), some (vI x1), some (vI x2), some (vI x3), some (vI x4), some (vI (x4 - 1))], [], ((up2 I p1 (((2 * x4) + 1).toNat) (4 + x4)), S)) r) : Ev d mX12_isFence (86, [some (vR (some (22, 0, a0))), some (vI x1), some (vI x2), some (vI x3), some (vI x4), none], [], (I, S)) r :=
  s_aload_n rfl rfl rfl <|
  s_getR rfl rfl rfl hr1 <|
  s_iconst rfl rfl <|
  s_iload rfl rfl rfl <|
  s_imulp rfl ho2 <|
  s_iconst rfl rfl <|
  s_iaddp rfl ho3 <|
  s_iconst rfl rfl <|
  s_iload rfl rfl rfl <|
  s_iaddp rfl ho4 <|
  s_iast rfl hi5 <|
  s_iload rfl rfl rfl <|
  s_iconst rfl rfl <|
  s_isubp rfl ho6 <|
  s_istore [some (vR (some (22, 0, a0))), some (vI x1), some (vI x2), some (vI x3), some (vI x4), some (vI (x4 - 1))] rfl rfl <|
  k
theorem b_X12_isFence_107 {d : Nat} {r : PO × PM} {I : Nat → Nat → Int} {S : PS} {a0 : Nat} {x1 x2 x3 x4 x5 : Int} (kt : x5 < 0 → Ev d mX12_isFence (151, [some (vR (some (22, 0, a0))), some (vI x1), some (vI x2), some (vI x3), some (vI x4), some (vI x5)], [], (I, S)) r) (kf : 0 ≤ x5 → Ev d mX12_isFence (112, [some (vR (some (22, 0, a0))), some (vI x1), some (vI x2), some (vI x3), some (vI x4), some (vI x5)], [], (I, S)) r) : Ev d mX12_isFence (107, [some (vR (some (22, 0, a0))), some (vI x1), some (vI x2), some (vI x3), some (vI x4), some (vI x5)], [], (I, S)) r :=
  s_iload rfl rfl rfl <|
  s_if_lt 151 rfl rfl kt kf
theorem b_X12_isFence_112 {d : Nat} {r : PO × PM} {I : Nat → Nat → Int} {S : PS} {a0 : Nat} {x1 x2 x3 x4 x5 z : Int} {I1 : Nat → Nat → Int} {S1 : PS} (c : Ca d mX12_areParted [vR (some (22, 0, a0)), vI x5, vI x4] (I, S) (.inl (some (vI z))) (I1, S1)) (k : Ev (d + 1) mX12_isFence (120, [some (vR (some (22, 0, a0))), some (vI x1), some (vI x2), some (vI x3), some (vI x4), some (vI x5)], [vI z], (I1, S1)) r) : Ev (d + 1) mX12_isFence (112, [some (vR (some (22, 0, a0))), some (vI x1), some (vI x2), some (vI x3), some (vI x4), some (vI x5)], [], (I, S)) r :=
  s_aload_n rfl rfl rfl <|
  s_iload rfl rfl rfl <|
  s_iload rfl rfl rfl <|
  s_cvI rfl rfl rfl rfl rfl c k
theorem b_X12_isFence_120 {d : Nat} {r : PO × PM} {I : Nat → Nat → Int} {S : PS} {a0 : Nat} {x1 x2 x3 x4 x5 xs0 : Int} (kt : xs0 ≠ 0 → Ev d mX12_isFence (145, [some (vR (some (22, 0, a0))), some (vI x1), some (vI x2), some (vI x3), some (vI x4), some (vI x5)], [], (I, S)) r) (kf : xs0 = 0 → Ev d mX12_isFence (123, [some (vR (some (22, 0, a0))), some (vI x1), some (vI x2), some (vI x3), some (vI x4), some (vI x5)], [], (I, S)) r) : Ev d mX12_isFence (120, [some (vR (some (22, 0, a0))), some (vI x1), some (vI x2), some (vI x3), some (vI x4), some (vI x5)], [vI xs0], (I, S)) r :=
  s_if_ne 145 rfl rfl kt kf
theorem b_X12_isFence_123 {d : Nat} {r : PO × PM} {I : Nat → Nat → Int} {S : PS} {a0 p1 q1 : Nat} {x1 x2 x3 x4 x5 : Int} (hr1 : S.1 a0 36 = some (0, q1, p1)) (ho2 : -2147483648 ≤ 2 * x4 ∧ 2 * x4 ≤ 2147483647) (ho3 : -2147483648 ≤ (2 * x4) + 1 ∧ (2 * x4) + 1 ≤ 2147483647) (ho4 : -2147483648 ≤ 2 * x5 ∧ 2 * x5 ≤ 2147483647) (ho5 : -2147483648 ≤ (2 * x5) + 1 ∧ (2 * x5) + 1 ≤ 2147483647) (hi6 : 0 ≤ (2 * x5) + 1 ∧ (2 * x5) + 1 < (q1 : Nat)) (hi7 : 0 ≤ (2 * x4) + 1 ∧ (2 * x4) + 1 < (q1 : Nat)) (k : Ev d mX12_isFence (145, [some (vR (some (22, 0, a0))), some (vI x1), some (vI x2), some (vI x3), some (vI x4), some (vI x5)], [], ((up2 I p1 (((2 * x4) + 1).toNat) (I p1 ((2 * x5) + 1).toNat)), S)) r) : Ev d mX12_isFence (123, [some (vR (some (22, 0, a0))), some (vI x1), some (vI x2), some (vI x3), some (vI x4), some (vI x5)], [], (I, S)) r :=
  s_aload_n rfl rfl rfl <|
  s_getR rfl rfl rfl hr1 <|
  s_iconst rfl rfl <|
  s_iload rfl rfl rfl <|
  s_imulp rfl ho2 <|
  s_iconst rfl rfl <|
  s_iaddp rfl ho3 <|
  s_aload_n rfl rfl rfl <|
  s_getR rfl rfl rfl hr1 <|
  s_iconst rfl rfl <|
  s_iload rfl rfl rfl <|
  s_imulp rfl ho4 <|
  s_iconst rfl rfl <|
  s_iaddp rfl ho5 <|
  s_iald rfl rfl hi6 <|
  s_iast rfl hi7 <|
  k
theorem b_X12_isFence_145 {d : Nat} {r : PO × PM} {I : Nat → Nat → Int} {S : PS} {a0 : Nat} {x1 x2 x3 x4 x5 : Int} (ho1 : -2147483648 ≤ x5 - 1 ∧ x5 - 1 ≤ 2147483647) (k : Ev d mX12_isFence (107, [some (vR (some (22, 0, a0))), some (vI x1), some (vI x2), some (vI x3), some (vI x4), some (vI (x5 - 1))], [], (I, S)) r) : Ev d mX12_isFence (145, [some (vR (some (22, 0, a0))), some (vI x1), some (vI x2), some (vI x3), some (vI x4), some (vI x5)], [], (I, S)) r :=
  s_iincpn [some (vR (some (22, 0, a0))), some (vI x1), some (vI x2), some (vI x3), some (vI x4), some (vI (x5 - 1))] rfl rfl ho1 rfl <|
  s_goto 107 rfl rfl k
theorem b_X12_isFence_151 {d : Nat} {r : PO × PM} {I : Nat → Nat → Int} {S : PS} {a0 : Nat} {x1 x2 x3 x4 x5 : Int} (ho1 : -2147483648 ≤ x4 + 1 ∧ x4 + 1 ≤ 2147483647) (k : Ev d mX12_isFence (73, [some (vR (some (22, 0, a0))), some (vI x1), some (vI x2), some (vI x3), some (vI (x4 + 1)), none], [], (I, S)) r) : Ev d mX12_isFence (151, [some (vR (some (22, 0, a0))), some (vI x1), some (vI x2), some (vI x3), some (vI x4), some (vI x5)], [], (I, S)) r :=
  s_iincp [some (vR (some (22, 0, a0))), some (vI x1), some (vI x2), some (vI x3), some (vI (x4 + 1)), some (vI x5)] rfl rfl ho1 rfl <|
  s_goto 73 rfl rfl (ev_forget [false, false, false, false, false, true] rfl k)
theorem b_X12_isFence_157 {d : Nat} {I : Nat → Nat → Int} {S : PS} {a0 : Nat} {x1 x2 x3 x4 : Int} : Ev d mX12_isFence (157, [some (vR (some (22, 0, a0))), some (vI x1), some (vI x2), some (vI x3), some (vI x4), none], [], (I, S)) (.inl (some (vI 1)), (I, S)) :=
  s_iconst rfl rfl <|
  s_ret rfl rfl
theorem b_X12_areParted_0 {d : Nat} {r : PO × PM} {I : Nat → Nat → Int} {S : PS} {a0 : Nat} {x1 x2 : Int} (ho1 : -2147483648 ≤ x1 + 1 ∧ x1 + 1 ≤ 2147483647) (k : Ev d mX12_areParted (4, [some (vR (some (22, 0, a0))), some (vI x1), some (vI x2), some (vI (x1 + 1)), none], [], (I, S)) r) : Ev d mX12_areParted (0, [some (vR (some (22, 0, a0))), some (vI x1), some (vI x2), none, none], [], (I, S)) r :=
  s_iload_n rfl rfl rfl <|
  s_iconst rfl rfl <|
  s_iaddp rfl ho1 <|
  s_istore_n [some (vR (some (22, 0, a0))), some (vI x1), some (vI x2), some (vI (x1 + 1)), none] rfl rfl <|
  k
theorem b_X12_areParted_4 {d : Nat} {r : PO × PM} {I : Nat → Nat → Int} {S : PS} {a0 : Nat} {x1 x2 x3 : Int} (kt : x2 < x3 → Ev d mX12_areParted (67, [some (vR (some (22, 0, a0))), some (vI x1), some (vI x2), some (vI x3), none], [], (I, S)) r) (kf : x3 ≤ x2 → Ev d mX12_areParted (9, [some (vR (some (22, 0, a0))), some (vI x1), some (vI x2), some (vI x3), none], [], (I, S)) r) : Ev d mX12_areParted (4, [some (vR (some (22, 0, a0))), some (vI x1), some (vI x2), some (vI x3), none], [], (I, S)) r :=
  s_iload_n rfl rfl rfl <|
  s_iload_n rfl rfl rfl <|
  s_icmp_gt 67 rfl rfl kt kf
theorem b_X12_areParted_9 {d : Nat} {r : PO × PM} {I : Nat → Nat → Int} {S : PS} {a0 : Nat} {x1 x2 x3 : Int} (k : Ev d mX12_areParted (12, [some (vR (some (22, 0, a0))), some (vI x1), some (vI x2), some (vI x3), some (vI 0)], [], (I, S)) r) : Ev d mX12_areParted (9, [some (vR (some (22, 0, a0))), some (vI x1), some (vI x2), some (vI x3), none], [], (I, S)) r :=
  s_iconst rfl rfl <|
  s_istore [some (vR (some (22, 0, a0))), some (vI x1), some (vI x2), some (vI x3), some (vI 0)] rfl rfl <|
  k
theorem b_X12_areParted_12 {d : Nat} {r : PO × PM} {I : Nat → Nat → Int} {S : PS} {a0 : Nat} {x1 x2 x3 x4 z : Int} {I1 : Nat → Nat → Int} {S1 : PS} (c : Ca d mX12_firsts [vR (some (22, 0, a0))] (I, S) (.inl (some (vI z))) (I1, S1)) (k : Ev (d + 1) mX12_areParted (18, [some (vR (some (22, 0, a0))), some (vI x1), some (vI x2), some (vI x3), some (vI x4)], [vI z, vI x4], (I1, S1)) r) : Ev (d + 1) mX12_areParted (12, [some (vR (some (22, 0, a0))), some (vI x1), some (vI x2), some (vI x3), some (vI x4)], [], (I, S)) r :=
  s_iload rfl rfl rfl <|
  s_aload_n rfl rfl rfl <|
  s_cvI rfl rfl rfl rfl rfl c k
theorem b_X12_areParted_18 {d : Nat} {r : PO × PM} {I : Nat → Nat → Int} {S : PS} {a0 : Nat} {x1 x2 x3 x4 xs0 xs1 : Int} (kt : xs1 ≤ xs0 → Ev d mX12_areParted (61, [some (vR (some (22, 0, a0))), some (vI x1), some (vI x2), some (vI x3), some (vI x4)], [], (I, S)) r) (kf : xs0 < xs1 → Ev d mX12_areParted (21, [some (vR (some (22, 0, a0))), some (vI x1), some (vI x2), some (vI x3), some (vI x4)], [], (I, S)) r) : Ev d mX12_areParted (18, [some (vR (some (22, 0, a0))), some (vI x1), some (vI x2), some (vI x3), some (vI x4)], [vI xs1, vI xs0], (I, S)) r :=
  s_icmp_ge 61 rfl rfl kt kf
theorem b_X12_areParted_21 {d : Nat} {r : PO × PM} {I : Nat → Nat → Int} {S : PS} {a0 : Nat} {x1 x2 x3 x4 : Int} (kt : x4 ≤ x1 → Ev d mX12_areParted (33, [some (vR (some (22, 0, a0))), some (vI x1), some (vI x2), some (vI x3), some (vI x4)], [], (I, S)) r) (kf : x1 < x4 → Ev d mX12_areParted (27, [some (vR (some (22, 0, a0))), some (vI x1), some (vI x2), some (vI x3), some (vI x4)], [], (I, S)) r) : Ev d mX12_areParted (21, [some (vR (some (22, 0, a0))), some (vI x1), some (vI x2), some (vI x3), some (vI x4)], [], (I, S)) r :=
  s_iload rfl rfl rfl <|
  s_iload_n rfl rfl rfl <|
  s_icmp_le 33 rfl rfl kt kf
theorem b_X12_areParted_27 {d : Nat} {r : PO × PM} {I : Nat → Nat → Int} {S : PS} {a0 : Nat} {x1 x2 x3 x4 : Int} (kt : x4 ≤ x2 → Ev d mX12_areParted (55, [some (vR (some (22, 0, a0))), some (vI x1), some (vI x2), some (vI x3), some (vI x4)], [], (I, S)) r) (kf : x2 < x4 → Ev d mX12_areParted (33, [some (vR (some (22, 0, a0))), some (vI x1), some (vI x2), some (vI x3), some (vI x4)], [], (I, S)) r) : Ev d mX12_areParted (27, [some (vR (some (22, 0, a0))), some (vI x1), some (vI x2), some (vI x3), some (vI x4)], [], (I, S)) r :=
  s_iload rfl rfl rfl <|
  s_iload_n rfl rfl rfl <|
  s_icmp_le 55 rfl rfl kt kf
theorem b_X12_areParted_33 {d : Nat} {r : PO × PM} {I : Nat → Nat → Int} {S : PS} {a0 p1 q1 : Nat} {x1 x2 x3 x4 : Int} (hr1 : S.1 a0 36 = some (0, q1, p1)) (ho2 : -2147483648 ≤ 2 * x3 ∧ 2 * x3 ≤ 2147483647) (hi3 : 0 ≤ 2 * x3 ∧ 2 * x3 < (q1 : Nat)) (ho4 : -2147483648 ≤ 2 * x4 ∧ 2 * x4 ≤ 2147483647) (hi5 : 0 ≤ 2 * x4 ∧ 2 * x4 < (q1 : Nat)) (kt : I p1 (2 * x3).toNat ≠ I p1 (2 * x4).toNat → Ev d mX12_areParted (55, [some (vR (some (22, 0, a0))), some (vI x1), some (vI x2), some (vI x3), some (vI x4)], [], (I, S)) r) (kf : I p1 (2 * x3).toNat = I p1 (2 * x4).toNat → Ev d mX12_areParted (53, [some (vR (some (22, 0, a0))), some (vI x1), some (vI x2), some (vI x3), some (vI x4)], [], (I, S)) r) : Ev d mX12_areParted (33, [some (vR (some (22, 0, a0))), some (vI x1), some (vI x2), some (vI x3), some (vI x4)], [], (I, S)) r :=
  s_aload_n rfl rfl rfl <|
  s_getR rfl rfl rfl hr1 <|
  s_iconst rfl rfl <|
  s_iload_n rfl rfl rfl <|
  s_imulp rfl ho2 <|
  s_iald rfl rfl hi3 <|
  s_aload_n rfl rfl rfl <|
  s_getR rfl rfl rfl hr1 <|
  s_iconst rfl rfl <|
  s_iload rfl rfl rfl <|
  s_imulp rfl ho4 <|
  s_iald rfl rfl hi5 <|
  s_icmp_ne 55 rfl rfl kt kf
theorem b_X12_areParted_53 {d : Nat} {I : Nat → Nat → Int} {S : PS} {a0 : Nat} {x1 x2 x3 x4 : Int} : Ev d mX12_areParted (53, [some (vR (some (22, 0, a0))), some (vI x1), some (vI x2), some (vI x3), some (vI x4)], [], (I, S)) (.inl (some (vI 1)), (I, S)) :=
  s_iconst rfl rfl <|
  s_ret rfl rfl
theorem b_X12_areParted_55 {d : Nat} {r : PO × PM} {I : Nat → Nat → Int} {S : PS} {a0 : Nat} {x1 x2 x3 x4 : Int} (ho1 : -2147483648 ≤ x4 + 1 ∧ x4 + 1 ≤ 2147483647) (k : Ev d mX12_areParted (12, [some (vR (some (22, 0, a0))), some (vI x1), some (vI x2), some (vI x3), some (vI (x4 + 1))], [], (I, S)) r) : Ev d mX12_areParted (55, [some (vR (some (22, 0, a0))), some (vI x1), some (vI x2), some (vI x3), some (vI x4)], [], (I, S)) r :=
  s_iincp [some (vR (some (22, 0, a0))), some (vI x1), some (vI x2), some (vI x3), some (vI (x4 + 1))] rfl rfl ho1 rfl <|
  s_goto 12 rfl rfl k
theorem b_X12_areParted_61 {d : Nat} {r : PO × PM} {I : Nat → Nat → Int} {S : PS} {a0 : Nat} {x1 x2 x3 x4 : Int} (ho1 : -2147483648 ≤ x3 + 1 ∧ x3 + 1 ≤ 2147483647) (k : Ev d mX12_areParted (4, [some (vR (some (22, 0, a0))), some (vI x1), some (vI x2), some (vI (x3 + 1)), none], [], (I, S)) r) : Ev d mX12_areParted (61, [some (vR (some (22, 0, a0))), some (vI x1), some (vI x2), some (vI x3), some (vI x4)], [], (I, S)) r :=
  s_iincp [some (vR (some (22, 0, a0))), some (vI x1), some (vI x2), some (vI (x3 + 1)), some (vI x4)] rfl rfl ho1 rfl <|
  s_goto 4 rfl rfl (ev_forget [false, false, false, false, true] rfl k)
theorem b_X12_areParted_67 {d : Nat} {I : Nat → Nat → Int} {S : PS} {a0 : Nat} {x1 x2 x3 : Int} : Ev d mX12_areParted (67, [some (vR (some (22, 0, a0))), some (vI x1), some (vI x2), some (vI x3), none], [], (I, S)) (.inl (some (vI 0)), (I, S)) :=
  s_iconst rfl rfl <|
  s_ret rfl rfl
theorem b_X12_waysOf_0 {d : Nat} {r : PO × PM} {I : Nat → Nat → Int} {S : PS} {a0 : Nat} (k : Ev d mX12_waysOf (4, [some (vR (some (22, 0, a0))), some (vI 1), some (vI 0)], [], (I, S)) r) : Ev d mX12_waysOf (0, [some (vR (some (22, 0, a0))), none, none], [], (I, S)) r :=
  s_iconst rfl rfl <|
  s_istore_n [some (vR (some (22, 0, a0))), some (vI 1), none] rfl rfl <|
  s_iconst rfl rfl <|
  s_istore_n [some (vR (some (22, 0, a0))), some (vI 1), some (vI 0)] rfl rfl <|
  k
theorem b_X12_waysOf_4 {d : Nat} {r : PO × PM} {I : Nat → Nat → Int} {S : PS} {a0 : Nat} {x1 x2 z : Int} {I1 : Nat → Nat → Int} {S1 : PS} (c : Ca d mX12_firsts [vR (some (22, 0, a0))] (I, S) (.inl (some (vI z))) (I1, S1)) (k : Ev (d + 1) mX12_waysOf (9, [some (vR (some (22, 0, a0))), some (vI x1), some (vI x2)], [vI z, vI x2], (I1, S1)) r) : Ev (d + 1) mX12_waysOf (4, [some (vR (some (22, 0, a0))), some (vI x1), some (vI x2)], [], (I, S)) r :=
  s_iload_n rfl rfl rfl <|
  s_aload_n rfl rfl rfl <|
  s_cvI rfl rfl rfl rfl rfl c k
theorem b_X12_waysOf_9 {d : Nat} {r : PO × PM} {I : Nat → Nat → Int} {S : PS} {a0 : Nat} {x1 x2 xs0 xs1 : Int} (kt : xs1 ≤ xs0 → Ev d mX12_waysOf (22, [some (vR (some (22, 0, a0))), some (vI x1), some (vI x2)], [], (I, S)) r) (kf : xs0 < xs1 → Ev d mX12_waysOf (12, [some (vR (some (22, 0, a0))), some (vI x1), some (vI x2)], [], (I, S)) r) : Ev d mX12_waysOf (9, [some (vR (some (22, 0, a0))), some (vI x1), some (vI x2)], [vI xs1, vI xs0], (I, S)) r :=
  s_icmp_ge 22 rfl rfl kt kf
theorem b_X12_waysOf_12 {d : Nat} {r : PO × PM} {I : Nat → Nat → Int} {S : PS} {a0 : Nat} {x1 x2 : Int} (ho1 : -2147483648 ≤ 4 * x1 ∧ 4 * x1 ≤ 2147483647) (ho2 : -2147483648 ≤ x2 + 1 ∧ x2 + 1 ≤ 2147483647) (k : Ev d mX12_waysOf (4, [some (vR (some (22, 0, a0))), some (vI (4 * x1)), some (vI (x2 + 1))], [], (I, S)) r) : Ev d mX12_waysOf (12, [some (vR (some (22, 0, a0))), some (vI x1), some (vI x2)], [], (I, S)) r :=
  s_iconst rfl rfl <|
  s_iload_n rfl rfl rfl <|
  s_imulp rfl ho1 <|
  s_istore_n [some (vR (some (22, 0, a0))), some (vI (4 * x1)), some (vI x2)] rfl rfl <|
  s_iincp [some (vR (some (22, 0, a0))), some (vI (4 * x1)), some (vI (x2 + 1))] rfl rfl ho2 rfl <|
  s_goto 4 rfl rfl k
theorem b_X12_waysOf_22 {d : Nat} {I : Nat → Nat → Int} {S : PS} {a0 : Nat} {x1 x2 : Int} : Ev d mX12_waysOf (22, [some (vR (some (22, 0, a0))), some (vI x1), some (vI x2)], [], (I, S)) (.inl (some (vI x1)), (I, S)) :=
  s_iload_n rfl rfl rfl <|
  s_ret rfl rfl
theorem b_X12_fences_0 {d : Nat} {r : PO × PM} {I : Nat → Nat → Int} {S : PS} {a0 : Nat} {I1 : Nat → Nat → Int} {S1 : PS} {z : Int} (c : Ca d mX12_waysOf [vR (some (22, 0, a0))] (I, S) (.inl (some (vI z))) (I1, S1)) (k : Ev (d + 1) mX12_fences (6, [some (vR (some (22, 0, a0))), some (vI 0), none, none], [vI z], (I1, S1)) r) : Ev (d + 1) mX12_fences (0, [some (vR (some (22, 0, a0))), none, none, none], [], (I, S)) r :=
  s_iconst rfl rfl <|
  s_istore_n [some (vR (some (22, 0, a0))), some (vI 0), none, none] rfl rfl <|
  s_aload_n rfl rfl rfl <|
  s_cvI rfl rfl rfl rfl rfl c k
theorem b_X12_fences_6 {d : Nat} {r : PO × PM} {I : Nat → Nat → Int} {S : PS} {a0 : Nat} {x1 xs0 : Int} (k : Ev d mX12_fences (9, [some (vR (some (22, 0, a0))), some (vI x1), some (vI xs0), some (vI 0)], [], (I, S)) r) : Ev d mX12_fences (6, [some (vR (some (22, 0, a0))), some (vI x1), none, none], [vI xs0], (I, S)) r :=
  s_istore_n [some (vR (some (22, 0, a0))), some (vI x1), some (vI xs0), none] rfl rfl <|
  s_iconst rfl rfl <|
  s_istore_n [some (vR (some (22, 0, a0))), some (vI x1), some (vI xs0), some (vI 0)] rfl rfl <|
  k
theorem b_X12_fences_9 {d : Nat} {r : PO × PM} {I : Nat → Nat → Int} {S : PS} {a0 : Nat} {x1 x2 x3 : Int} (kt : x2 ≤ x3 → Ev d mX12_fences (36, [some (vR (some (22, 0, a0))), some (vI x1), some (vI x2), some (vI x3)], [], (I, S)) r) (kf : x3 < x2 → Ev d mX12_fences (14, [some (vR (some (22, 0, a0))), some (vI x1), some (vI x2), some (vI x3)], [], (I, S)) r) : Ev d mX12_fences (9, [some (vR (some (22, 0, a0))), some (vI x1), some (vI x2), some (vI x3)], [], (I, S)) r :=
  s_iload_n rfl rfl rfl <|
  s_iload_n rfl rfl rfl <|
  s_icmp_ge 36 rfl rfl kt kf
theorem b_X12_fences_14 {d : Nat} {r : PO × PM} {I : Nat → Nat → Int} {S : PS} {a0 : Nat} {x1 x2 x3 z : Int} {I1 : Nat → Nat → Int} {S1 : PS} (c : Ca d mX12_isFence [vR (some (22, 0, a0)), vI x3] (I, S) (.inl (some (vI z))) (I1, S1)) (k : Ev (d + 1) mX12_fences (20, [some (vR (some (22, 0, a0))), some (vI x1), some (vI x2), some (vI x3)], [vI z, vI x1], (I1, S1)) r) : Ev (d + 1) mX12_fences (14, [some (vR (some (22, 0, a0))), some (vI x1), some (vI x2), some (vI x3)], [], (I, S)) r :=
  s_iload_n rfl rfl rfl <|
  s_aload_n rfl rfl rfl <|
  s_iload_n rfl rfl rfl <|
  s_cvI rfl rfl rfl rfl rfl c k
theorem b_X12_fences_20 {d : Nat} {r : PO × PM} {I : Nat → Nat → Int} {S : PS} {a0 : Nat} {x1 x2 x3 xs0 xs1 : Int} (kt : xs1 = 0 → Ev d mX12_fences (27, [some (vR (some (22, 0, a0))), some (vI x1), some (vI x2), some (vI x3)], [vI xs0], (I, S)) r) (kf : xs1 ≠ 0 → Ev d mX12_fences (23, [some (vR (some (22, 0, a0))), some (vI x1), some (vI x2), some (vI x3)], [vI xs0], (I, S)) r) : Ev d mX12_fences (20, [some (vR (some (22, 0, a0))), some (vI x1), some (vI x2), some (vI x3)], [vI xs1, vI xs0], (I, S)) r :=
  s_if_eq 27 rfl rfl kt kf
theorem b_X12_fences_23 {d : Nat} {r : PO × PM} {I : Nat → Nat → Int} {S : PS} {a0 : Nat} {x1 x2 x3 xs0 : Int} (k : Ev d mX12_fences (28, [some (vR (some (22, 0, a0))), some (vI x1), some (vI x2), some (vI x3)], [vI 1, vI xs0], (I, S)) r) : Ev d mX12_fences (23, [some (vR (some (22, 0, a0))), some (vI x1), some (vI x2), some (vI x3)], [vI xs0], (I, S)) r :=
  s_iconst rfl rfl <|
  s_goto 28 rfl rfl k
theorem b_X12_fences_27 {d : Nat} {r : PO × PM} {I : Nat → Nat → Int} {S : PS} {a0 : Nat} {x1 x2 x3 xs0 : Int} (k : Ev d mX12_fences (28, [some (vR (some (22, 0, a0))), some (vI x1), some (vI x2), some (vI x3)], [vI 0, vI xs0], (I, S)) r) : Ev d mX12_fences (27, [some (vR (some (22, 0, a0))), some (vI x1), some (vI x2), some (vI x3)], [vI xs0], (I, S)) r :=
  s_iconst rfl rfl <|
  k
theorem b_X12_fences_28 {d : Nat} {r : PO × PM} {I : Nat → Nat → Int} {S : PS} {a0 : Nat} {x1 x2 x3 xs0 xs1 : Int} (ho1 : -2147483648 ≤ xs0 + xs1 ∧ xs0 + xs1 ≤ 2147483647) (ho2 : -2147483648 ≤ x3 + 1 ∧ x3 + 1 ≤ 2147483647) (k : Ev d mX12_fences (9, [some (vR (some (22, 0, a0))), some (vI (xs0 + xs1)), some (vI x2), some (vI (x3 + 1))], [], (I, S)) r) : Ev d mX12_fences (28, [some (vR (some (22, 0, a0))), some (vI x1), some (vI x2), some (vI x3)], [vI xs1, vI xs0], (I, S)) r :=
  s_iaddp rfl ho1 <|
  s_istore_n [some (vR (some (22, 0, a0))), some (vI (xs0 + xs1)), some (vI x2), some (vI x3)] rfl rfl <|
  s_iincp [some (vR (some (22, 0, a0))), some (vI (xs0 + xs1)), some (vI x2), some (vI (x3 + 1))] rfl rfl ho2 rfl <|
  s_goto 9 rfl rfl k
theorem b_X12_fences_36 {d : Nat} {I : Nat → Nat → Int} {S : PS} {a0 : Nat} {x1 x2 x3 : Int} : Ev d mX12_fences (36, [some (vR (some (22, 0, a0))), some (vI x1), some (vI x2), some (vI x3)], [], (I, S)) (.inl (some (vI x1)), (I, S)) :=
  s_iload_n rfl rfl rfl <|
  s_ret rfl rfl
theorem b_X12_runsOf_0 {d : Nat} {r : PO × PM} {I : Nat → Nat → Int} {S : PS} {a0 : Nat} {x1 : Int} (k : Ev d mX12_runsOf (4, [some (vR (some (22, 0, a0))), some (vI x1), some (vI 0), some (vI 0)], [], (I, S)) r) : Ev d mX12_runsOf (0, [some (vR (some (22, 0, a0))), some (vI x1), none, none], [], (I, S)) r :=
  s_iconst rfl rfl <|
  s_istore_n [some (vR (some (22, 0, a0))), some (vI x1), some (vI 0), none] rfl rfl <|
  s_iconst rfl rfl <|
  s_istore_n [some (vR (some (22, 0, a0))), some (vI x1), some (vI 0), some (vI 0)] rfl rfl <|
  k
theorem b_X12_runsOf_4 {d : Nat} {r : PO × PM} {I : Nat → Nat → Int} {S : PS} {a0 : Nat} {x1 x2 x3 : Int} (kt : I a0 37 ≤ x3 → Ev d mX12_runsOf (42, [some (vR (some (22, 0, a0))), some (vI x1), some (vI x2), some (vI x3)], [], (I, S)) r) (kf : x3 < I a0 37 → Ev d mX12_runsOf (12, [some (vR (some (22, 0, a0))), some (vI x1), some (vI x2), some (vI x3)], [], (I, S)) r) : Ev d mX12_runsOf (4, [some (vR (some (22, 0, a0))), some (vI x1), some (vI x2), some (vI x3)], [], (I, S)) r :=
  s_iload_n rfl rfl rfl <|
  s_aload_n rfl rfl rfl <|
  s_getI rfl rfl rfl <|
  s_icmp_ge 42 rfl rfl kt kf
theorem b_X12_runsOf_12 {d : Nat} {r : PO × PM} {I : Nat → Nat → Int} {S : PS} {a0 p1 q1 : Nat} {x1 x2 x3 : Int} (hr1 : S.1 a0 36 = some (0, q1, p1)) (hi2 : 0 ≤ x3 ∧ x3 < (q1 : Nat)) (kt : p_and (p_shr x1 (I p1 x3.toNat)) 1 ≠ 1 → Ev d mX12_runsOf (33, [some (vR (some (22, 0, a0))), some (vI x1), some (vI x2), some (vI x3)], [vI x2], (I, S)) r) (kf : p_and (p_shr x1 (I p1 x3.toNat)) 1 = 1 → Ev d mX12_runsOf (27, [some (vR (some (22, 0, a0))), some (vI x1), some (vI x2), some (vI x3)], [vI x2], (I, S)) r) : Ev d mX12_runsOf (12, [some (vR (some (22, 0, a0))), some (vI x1), some (vI x2), some (vI x3)], [], (I, S)) r :=
  s_iload_n rfl rfl rfl <|
  s_iload_n rfl rfl rfl <|
  s_aload_n rfl rfl rfl <|
  s_getR rfl rfl rfl hr1 <|
  s_iload_n rfl rfl rfl <|
  s_iald rfl rfl hi2 <|
  s_ishr rfl <|
  s_iconst rfl rfl <|
  s_iand rfl <|
  s_iconst rfl rfl <|
  s_icmp_ne 33 rfl rfl kt kf
theorem b_X12_runsOf_27 {d : Nat} {r : PO × PM} {I : Nat → Nat → Int} {S : PS} {a0 : Nat} {x1 x2 x3 xs0 : Int} (k : Ev d mX12_runsOf (34, [some (vR (some (22, 0, a0))), some (vI x1), some (vI x2), some (vI x3)], [vI (p_shl 1 x3), vI xs0], (I, S)) r) : Ev d mX12_runsOf (27, [some (vR (some (22, 0, a0))), some (vI x1), some (vI x2), some (vI x3)], [vI xs0], (I, S)) r :=
  s_iconst rfl rfl <|
  s_iload_n rfl rfl rfl <|
  s_ishl rfl <|
  s_goto 34 rfl rfl k
theorem b_X12_runsOf_33 {d : Nat} {r : PO × PM} {I : Nat → Nat → Int} {S : PS} {a0 : Nat} {x1 x2 x3 xs0 : Int} (k : Ev d mX12_runsOf (34, [some (vR (some (22, 0, a0))), some (vI x1), some (vI x2), some (vI x3)], [vI 0, vI xs0], (I, S)) r) : Ev d mX12_runsOf (33, [some (vR (some (22, 0, a0))), some (vI x1), some (vI x2), some (vI x3)], [vI xs0], (I, S)) r :=
  s_iconst rfl rfl <|
  k
theorem b_X12_runsOf_34 {d : Nat} {r : PO × PM} {I : Nat → Nat → Int} {S : PS} {a0 : Nat} {x1 x2 x3 xs0 xs1 : Int} (ho1 : -2147483648 ≤ x3 + 1 ∧ x3 + 1 ≤ 2147483647) (k : Ev d mX12_runsOf (4, [some (vR (some (22, 0, a0))), some (vI x1), some (vI (p_or xs0 xs1)), some (vI (x3 + 1))], [], (I, S)) r) : Ev d mX12_runsOf (34, [some (vR (some (22, 0, a0))), some (vI x1), some (vI x2), some (vI x3)], [vI xs1, vI xs0], (I, S)) r :=
  s_ior rfl <|
  s_istore_n [some (vR (some (22, 0, a0))), some (vI x1), some (vI (p_or xs0 xs1)), some (vI x3)] rfl rfl <|
  s_iincp [some (vR (some (22, 0, a0))), some (vI x1), some (vI (p_or xs0 xs1)), some (vI (x3 + 1))] rfl rfl ho1 rfl <|
  s_goto 4 rfl rfl k
theorem b_X12_runsOf_42 {d : Nat} {I : Nat → Nat → Int} {S : PS} {a0 : Nat} {x1 x2 x3 : Int} : Ev d mX12_runsOf (42, [some (vR (some (22, 0, a0))), some (vI x1), some (vI x2), some (vI x3)], [], (I, S)) (.inl (some (vI x2)), (I, S)) :=
  s_iload_n rfl rfl rfl <|
  s_ret rfl rfl
theorem b_X12_isLower_0 {d : Nat} {r : PO × PM} {I : Nat → Nat → Int} {S : PS} {a0 : Nat} {x1 x2 x3 x4 : Int} (k : Ev d mX12_isLower (6, [some (vR (some (22, 0, a0))), some (vI x1), some (vI x2), some (vI x3), some (vI x4), some (vI 0), some (vI 0), none], [], (I, S)) r) : Ev d mX12_isLower (0, [some (vR (some (22, 0, a0))), some (vI x1), some (vI x2), some (vI x3), some (vI x4), none, none, none], [], (I, S)) r :=
  s_iconst rfl rfl <|
  s_istore [some (vR (some (22, 0, a0))), some (vI x1), some (vI x2), some (vI x3), some (vI x4), some (vI 0), none, none] rfl rfl <|
  s_iconst rfl rfl <|
  s_istore [some (vR (some (22, 0, a0))), some (vI x1), some (vI x2), some (vI x3), some (vI x4), some (vI 0), some (vI 0), none] rfl rfl <|
  k
theorem b_X12_isLower_6 {d : Nat} {r : PO × PM} {I : Nat → Nat → Int} {S : PS} {a0 : Nat} {x1 x2 x3 x4 x5 x6 : Int} (kt : I a0 37 ≤ x6 → Ev d mX12_isLower (35, [some (vR (some (22, 0, a0))), some (vI x1), some (vI x2), some (vI x3), some (vI x4), some (vI x5), some (vI x6), none], [], (I, S)) r) (kf : x6 < I a0 37 → Ev d mX12_isLower (15, [some (vR (some (22, 0, a0))), some (vI x1), some (vI x2), some (vI x3), some (vI x4), some (vI x5), some (vI x6), none], [], (I, S)) r) : Ev d mX12_isLower (6, [some (vR (some (22, 0, a0))), some (vI x1), some (vI x2), some (vI x3), some (vI x4), some (vI x5), some (vI x6), none], [], (I, S)) r :=
  s_iload rfl rfl rfl <|
  s_aload_n rfl rfl rfl <|
  s_getI rfl rfl rfl <|
  s_icmp_ge 35 rfl rfl kt kf
theorem b_X12_isLower_15 {d : Nat} {r : PO × PM} {I : Nat → Nat → Int} {S : PS} {a0 p1 q1 : Nat} {x1 x2 x3 x4 x5 x6 : Int} (hr1 : S.1 a0 36 = some (0, q1, p1)) (hi2 : 0 ≤ x6 ∧ x6 < (q1 : Nat)) (ho3 : -2147483648 ≤ x6 + 1 ∧ x6 + 1 ≤ 2147483647) (k : Ev d mX12_isLower (6, [some (vR (some (22, 0, a0))), some (vI x1), some (vI x2), some (vI x3), some (vI x4), some (vI (p_or x5 (p_shl 1 (I p1 x6.toNat)))), some (vI (x6 + 1)), none], [], (I, S)) r) : Ev d mX12_isLower (15, [some (vR (some (22, 0, a0))), some (vI x1), some (vI x2), some (vI x3), some (vI x4), some (vI x5), some (vI x6), none], [], (I, S)) r :=
  s_iload rfl rfl rfl <|
  s_iconst rfl rfl <|
  s_aload_n rfl rfl rfl <|
  s_getR rfl rfl rfl hr1 <|
  s_iload rfl rfl rfl <|
  s_iald rfl rfl hi2 <|
  s_ishl rfl <|
  s_ior rfl <|
  s_istore [some (vR (some (22, 0, a0))), some (vI x1), some (vI x2), some (vI x3), some (vI x4), some (vI (p_or x5 (p_shl 1 (I p1 x6.toNat)))), some (vI x6), none] rfl rfl <|
  s_iincp [some (vR (some (22, 0, a0))), some (vI x1), some (vI x2), some (vI x3), some (vI x4), some (vI (p_or x5 (p_shl 1 (I p1 x6.toNat)))), some (vI (x6 + 1)), none] rfl rfl ho3 rfl <|
  s_goto 6 rfl rfl k
theorem b_X12_isLower_35 {d : Nat} {r : PO × PM} {I : Nat → Nat → Int} {S : PS} {a0 : Nat} {x1 x2 x3 x4 x5 x6 : Int} (k : Ev d mX12_isLower (38, [some (vR (some (22, 0, a0))), some (vI x1), some (vI x2), some (vI x3), some (vI x4), some (vI x5), some (vI 0), none], [], (I, S)) r) : Ev d mX12_isLower (35, [some (vR (some (22, 0, a0))), some (vI x1), some (vI x2), some (vI x3), some (vI x4), some (vI x5), some (vI x6), none], [], (I, S)) r :=
  s_iconst rfl rfl <|
  s_istore [some (vR (some (22, 0, a0))), some (vI x1), some (vI x2), some (vI x3), some (vI x4), some (vI x5), some (vI 0), none] rfl rfl <|
  k
theorem b_X12_isLower_38 {d : Nat} {r : PO × PM} {I : Nat → Nat → Int} {S : PS} {a0 : Nat} {x1 x2 x3 x4 x5 x6 : Int} (kt : 128 ≤ x6 → Ev d mX12_isLower (110, [some (vR (some (22, 0, a0))), some (vI x1), some (vI x2), some (vI x3), some (vI x4), some (vI x5), some (vI x6), none], [], (I, S)) r) (kf : x6 < 128 → Ev d mX12_isLower (46, [some (vR (some (22, 0, a0))), some (vI x1), some (vI x2), some (vI x3), some (vI x4), some (vI x5), some (vI x6), none], [], (I, S)) r) : Ev d mX12_isLower (38, [some (vR (some (22, 0, a0))), some (vI x1), some (vI x2), some (vI x3), some (vI x4), some (vI x5), some (vI x6), none], [], (I, S)) r :=
  s_iload rfl rfl rfl <|
  s_sipush rfl rfl <|
  s_icmp_ge 110 rfl rfl kt kf
theorem b_X12_isLower_46 {d : Nat} {r : PO × PM} {I : Nat → Nat → Int} {S : PS} {a0 : Nat} {x1 x2 x3 x4 x5 x6 : Int} (kt : p_and x6 (p_xor x5 (-1)) = 0 → Ev d mX12_isLower (59, [some (vR (some (22, 0, a0))), some (vI x1), some (vI x2), some (vI x3), some (vI x4), some (vI x5), some (vI x6), none], [], (I, S)) r) (kf : p_and x6 (p_xor x5 (-1)) ≠ 0 → Ev d mX12_isLower (56, [some (vR (some (22, 0, a0))), some (vI x1), some (vI x2), some (vI x3), some (vI x4), some (vI x5), some (vI x6), none], [], (I, S)) r) : Ev d mX12_isLower (46, [some (vR (some (22, 0, a0))), some (vI x1), some (vI x2), some (vI x3), some (vI x4), some (vI x5), some (vI x6), none], [], (I, S)) r :=
  s_iload rfl rfl rfl <|
  s_iload rfl rfl rfl <|
  s_iconst rfl rfl <|
  s_ixor rfl <|
  s_iand rfl <|
  s_if_eq 59 rfl rfl kt kf
theorem b_X12_isLower_56 {d : Nat} {r : PO × PM} {I : Nat → Nat → Int} {S : PS} {a0 : Nat} {x1 x2 x3 x4 x5 x6 : Int} (k : Ev d mX12_isLower (104, [some (vR (some (22, 0, a0))), some (vI x1), some (vI x2), some (vI x3), some (vI x4), some (vI x5), some (vI x6), none], [], (I, S)) r) : Ev d mX12_isLower (56, [some (vR (some (22, 0, a0))), some (vI x1), some (vI x2), some (vI x3), some (vI x4), some (vI x5), some (vI x6), none], [], (I, S)) r :=
  s_goto 104 rfl rfl k
theorem b_X12_isLower_59 {d : Nat} {r : PO × PM} {I : Nat → Nat → Int} {S : PS} {a0 p1 q1 p3 q3 : Nat} {x1 x2 x3 x4 x5 x6 z : Int} {I1 : Nat → Nat → Int} {S1 : PS} (hr1 : S.1 a0 31 = some (0, q1, p1)) (ho2 : -2147483648 ≤ 96 * x1 ∧ 96 * x1 ≤ 2147483647) (hr3 : S.1 a0 32 = some (0, q3, p3)) (c : Ca d mX12_runsOf [vR (some (22, 0, a0)), vI x6] (I, S) (.inl (some (vI z))) (I1, S1)) (k : Ev (d + 1) mX12_isLower (81, [some (vR (some (22, 0, a0))), some (vI x1), some (vI x2), some (vI x3), some (vI x4), some (vI x5), some (vI x6), none], [vI z, vI x3, vI x2, vI x1, vR (some (22, 0, a0)), vR (some (0, q3, p3)), vI (96 * x1), vR (some (0, q1, p1))], (I1, S1)) r) : Ev (d + 1) mX12_isLower (59, [some (vR (some (22, 0, a0))), some (vI x1), some (vI x2), some (vI x3), some (vI x4), some (vI x5), some (vI x6), none], [], (I, S)) r :=
  s_aload_n rfl rfl rfl <|
  s_getR rfl rfl rfl hr1 <|
  s_bipush rfl rfl <|
  s_iload_n rfl rfl rfl <|
  s_imulp rfl ho2 <|
  s_aload_n rfl rfl rfl <|
  s_getR rfl rfl rfl hr3 <|
  s_aload_n rfl rfl rfl <|
  s_iload_n rfl rfl rfl <|
  s_iload_n rfl rfl rfl <|
  s_iload_n rfl rfl rfl <|
  s_aload_n rfl rfl rfl <|
  s_iload rfl rfl rfl <|
  s_cvI rfl rfl rfl rfl rfl c k
theorem b_X12_isLower_81 {d : Nat} {r : PO × PM} {I : Nat → Nat → Int} {S : PS} {a0 ns0 as0 ns2 as2 as3 : Nat} {x1 x2 x3 x4 x5 x6 xs1 xs4 xs5 xs6 xs7 z : Int} {I1 : Nat → Nat → Int} {S1 : PS} (c : Ca d mX12_switched0 [vR (some (22, 0, as3)), vI xs4, vI xs5, vI xs6, vI xs7] (I, S) (.inl (some (vI z))) (I1, S1)) (k : Ev (d + 1) mX12_isLower (84, [some (vR (some (22, 0, a0))), some (vI x1), some (vI x2), some (vI x3), some (vI x4), some (vI x5), some (vI x6), none], [vI z, vR (some (0, ns2, as2)), vI xs1, vR (some (0, ns0, as0))], (I1, S1)) r) : Ev (d + 1) mX12_isLower (81, [some (vR (some (22, 0, a0))), some (vI x1), some (vI x2), some (vI x3), some (vI x4), some (vI x5), some (vI x6), none], [vI xs7, vI xs6, vI xs5, vI xs4, vR (some (22, 0, as3)), vR (some (0, ns2, as2)), vI xs1, vR (some (0, ns0, as0))], (I, S)) r :=
  s_cvI rfl rfl rfl rfl rfl c k
theorem b_X12_isLower_84 {d : Nat} {r : PO × PM} {I : Nat → Nat → Int} {S : PS} {a0 ns0 as0 ns2 as2 : Nat} {x1 x2 x3 x4 x5 x6 xs1 xs3 : Int} (hi1 : 0 ≤ xs3 ∧ xs3 < (ns2 : Nat)) (ho2 : -2147483648 ≤ xs1 + (I as2 xs3.toNat) ∧ xs1 + (I as2 xs3.toNat) ≤ 2147483647) (hi3 : 0 ≤ xs1 + (I as2 xs3.toNat) ∧ xs1 + (I as2 xs3.toNat) < (ns0 : Nat)) (kt : I as0 (xs1 + (I as2 xs3.toNat)).toNat = (-1) → Ev d mX12_isLower (104, [some (vR (some (22, 0, a0))), some (vI x1), some (vI x2), some (vI x3), some (vI x4), some (vI x5), some (vI x6), none], [], (I, S)) r) (kf : I as0 (xs1 + (I as2 xs3.toNat)).toNat ≠ (-1) → Ev d mX12_isLower (95, [some (vR (some (22, 0, a0))), some (vI x1), some (vI x2), some (vI x3), some (vI x4), some (vI x5), some (vI x6), some (vI (I as0 (xs1 + (I as2 xs3.toNat)).toNat))], [], (I, S)) r) : Ev d mX12_isLower (84, [some (vR (some (22, 0, a0))), some (vI x1), some (vI x2), some (vI x3), some (vI x4), some (vI x5), some (vI x6), none], [vI xs3, vR (some (0, ns2, as2)), vI xs1, vR (some (0, ns0, as0))], (I, S)) r :=
  s_iald rfl rfl hi1 <|
  s_iaddp rfl ho2 <|
  s_iald rfl rfl hi3 <|
  s_istore [some (vR (some (22, 0, a0))), some (vI x1), some (vI x2), some (vI x3), some (vI x4), some (vI x5), some (vI x6), some (vI (I as0 (xs1 + (I as2 xs3.toNat)).toNat))] rfl rfl <|
  s_iload rfl rfl rfl <|
  s_iconst rfl rfl <|
  s_icmp_eq 104 rfl rfl (fun c => ev_forget [false, false, false, false, false, false, false, true] rfl <| kt c) kf
theorem b_X12_isLower_95 {d : Nat} {r : PO × PM} {I : Nat → Nat → Int} {S : PS} {a0 : Nat} {x1 x2 x3 x4 x5 x6 x7 : Int} (kt : x4 ≤ x7 → Ev d mX12_isLower (104, [some (vR (some (22, 0, a0))), some (vI x1), some (vI x2), some (vI x3), some (vI x4), some (vI x5), some (vI x6), none], [], (I, S)) r) (kf : x7 < x4 → Ev d mX12_isLower (102, [some (vR (some (22, 0, a0))), some (vI x1), some (vI x2), some (vI x3), some (vI x4), some (vI x5), some (vI x6), some (vI x7)], [], (I, S)) r) : Ev d mX12_isLower (95, [some (vR (some (22, 0, a0))), some (vI x1), some (vI x2), some (vI x3), some (vI x4), some (vI x5), some (vI x6), some (vI x7)], [], (I, S)) r :=
  s_iload rfl rfl rfl <|
  s_iload rfl rfl rfl <|
  s_icmp_ge 104 rfl rfl (fun c => ev_forget [false, false, false, false, false, false, false, true] rfl <| kt c) kf
theorem b_X12_isLower_102 {d : Nat} {I : Nat → Nat → Int} {S : PS} {a0 : Nat} {x1 x2 x3 x4 x5 x6 x7 : Int} : Ev d mX12_isLower (102, [some (vR (some (22, 0, a0))), some (vI x1), some (vI x2), some (vI x3), some (vI x4), some (vI x5), some (vI x6), some (vI x7)], [], (I, S)) (.inl (some (vI 1)), (I, S)) :=
  s_iconst rfl rfl <|
  s_ret rfl rfl
theorem b_X12_isLower_104 {d : Nat} {r : PO × PM} {I : Nat → Nat → Int} {S : PS} {a0 : Nat} {x1 x2 x3 x4 x5 x6 : Int} (ho1 : -2147483648 ≤ x6 + 1 ∧ x6 + 1 ≤ 2147483647) (k : Ev d mX12_isLower (38, [some (vR (some (22, 0, a0))), some (vI x1), some (vI x2), some (vI x3), some (vI x4), some (vI x5), some (vI (x6 + 1)), none], [], (I, S)) r) : Ev d mX12_isLower (104, [some (vR (some (22, 0, a0))), some (vI x1), some (vI x2), some (vI x3), some (vI x4), some (vI x5), some (vI x6), none], [], (I, S)) r :=
  s_iincp [some (vR (some (22, 0, a0))), some (vI x1), some (vI x2), some (vI x3), some (vI x4), some (vI x5), some (vI (x6 + 1)), none] rfl rfl ho1 rfl <|
  s_goto 38 rfl rfl k
theorem b_X12_isLower_110 {d : Nat} {I : Nat → Nat → Int} {S : PS} {a0 : Nat} {x1 x2 x3 x4 x5 x6 : Int} : Ev d mX12_isLower (110, [some (vR (some (22, 0, a0))), some (vI x1), some (vI x2), some (vI x3), some (vI x4), some (vI x5), some (vI x6), none], [], (I, S)) (.inl (some (vI 0)), (I, S)) :=
  s_iconst rfl rfl <|
  s_ret rfl rfl
theorem b_X12_isLed_0 {d : Nat} {r : PO × PM} {I : Nat → Nat → Int} {S : PS} {a0 p1 q1 : Nat} {x1 x2 x3 : Int} (hr1 : S.1 a0 28 = some (0, q1, p1)) (ho2 : -2147483648 ≤ 96 * x1 ∧ 96 * x1 ≤ 2147483647) (ho3 : -2147483648 ≤ (96 * x1) + x2 ∧ (96 * x1) + x2 ≤ 2147483647) (hi4 : 0 ≤ (96 * x1) + x2 ∧ (96 * x1) + x2 < (q1 : Nat)) (k : Ev d mX12_isLed (16, [some (vR (some (22, 0, a0))), some (vI x1), some (vI x2), some (vI x3), some (vI (I p1 ((96 * x1) + x2).toNat)), some (vI 0), none, none, none], [], (I, S)) r) : Ev d mX12_isLed (0, [some (vR (some (22, 0, a0))), some (vI x1), some (vI x2), some (vI x3), none, none, none, none, none], [], (I, S)) r :=
  s_aload_n rfl rfl rfl <|
  s_getR rfl rfl rfl hr1 <|
  s_bipush rfl rfl <|
  s_iload_n rfl rfl rfl <|
  s_imulp rfl ho2 <|
  s_iload_n rfl rfl rfl <|
  s_iaddp rfl ho3 <|
  s_iald rfl rfl hi4 <|
  s_istore [some (vR (some (22, 0, a0))), some (vI x1), some (vI x2), some (vI x3), some (vI (I p1 ((96 * x1) + x2).toNat)), none, none, none, none] rfl rfl <|
  s_iconst rfl rfl <|
  s_istore [some (vR (some (22, 0, a0))), some (vI x1), some (vI x2), some (vI x3), some (vI (I p1 ((96 * x1) + x2).toNat)), some (vI 0), none, none, none] rfl rfl <|
  k
theorem b_X12_isLed_16 {d : Nat} {r : PO × PM} {I : Nat → Nat → Int} {S : PS} {a0 : Nat} {x1 x2 x3 x4 x5 : Int} (kt : 3 ≤ x5 → Ev d mX12_isLed (103, [some (vR (some (22, 0, a0))), some (vI x1), some (vI x2), some (vI x3), some (vI x4), some (vI x5), none, none, none], [], (I, S)) r) (kf : x5 < 3 → Ev d mX12_isLed (22, [some (vR (some (22, 0, a0))), some (vI x1), some (vI x2), some (vI x3), some (vI x4), some (vI x5), none, none, none], [], (I, S)) r) : Ev d mX12_isLed (16, [some (vR (some (22, 0, a0))), some (vI x1), some (vI x2), some (vI x3), some (vI x4), some (vI x5), none, none, none], [], (I, S)) r :=
  s_iload rfl rfl rfl <|
  s_iconst rfl rfl <|
  s_icmp_ge 103 rfl rfl kt kf
theorem b_X12_isLed_22 {d : Nat} {r : PO × PM} {I : Nat → Nat → Int} {S : PS} {a0 : Nat} {x1 x2 x3 x4 x5 : Int} {I1 : Nat → Nat → Int} {S1 : PS} (c : Ca d mX12_laysRuns [vR (some (22, 0, a0)), vI x1, vI x4, vI x5] (I, S) (.inl none) (I1, S1)) (k : Ev (d + 1) mX12_isLed (31, [some (vR (some (22, 0, a0))), some (vI x1), some (vI x2), some (vI x3), some (vI x4), some (vI x5), none, none, none], [], (I1, S1)) r) : Ev (d + 1) mX12_isLed (22, [some (vR (some (22, 0, a0))), some (vI x1), some (vI x2), some (vI x3), some (vI x4), some (vI x5), none, none, none], [], (I, S)) r :=
  s_aload_n rfl rfl rfl <|
  s_iload_n rfl rfl rfl <|
  s_iload rfl rfl rfl <|
  s_iload rfl rfl rfl <|
  s_cvV rfl rfl rfl rfl rfl c k
theorem b_X12_isLed_31 {d : Nat} {r : PO × PM} {I : Nat → Nat → Int} {S : PS} {a0 : Nat} {x1 x2 x3 x4 x5 z : Int} {I1 : Nat → Nat → Int} {S1 : PS} (c : Ca d mX12_waysOf [vR (some (22, 0, a0))] (I, S) (.inl (some (vI z))) (I1, S1)) (k : Ev (d + 1) mX12_isLed (35, [some (vR (some (22, 0, a0))), some (vI x1), some (vI x2), some (vI x3), some (vI x4), some (vI x5), none, none, none], [vI z], (I1, S1)) r) : Ev (d + 1) mX12_isLed (31, [some (vR (some (22, 0, a0))), some (vI x1), some (vI x2), some (vI x3), some (vI x4), some (vI x5), none, none, none], [], (I, S)) r :=
  s_aload_n rfl rfl rfl <|
  s_cvI rfl rfl rfl rfl rfl c k
theorem b_X12_isLed_35 {d : Nat} {r : PO × PM} {I : Nat → Nat → Int} {S : PS} {a0 : Nat} {x1 x2 x3 x4 x5 xs0 : Int} (k : Ev d mX12_isLed (43, [some (vR (some (22, 0, a0))), some (vI x1), some (vI x2), some (vI x3), some (vI x4), some (vI x5), some (vI xs0), some (vI 1), some (vI 0)], [], (I, S)) r) : Ev d mX12_isLed (35, [some (vR (some (22, 0, a0))), some (vI x1), some (vI x2), some (vI x3), some (vI x4), some (vI x5), none, none, none], [vI xs0], (I, S)) r :=
  s_istore [some (vR (some (22, 0, a0))), some (vI x1), some (vI x2), some (vI x3), some (vI x4), some (vI x5), some (vI xs0), none, none] rfl rfl <|
  s_iconst rfl rfl <|
  s_istore [some (vR (some (22, 0, a0))), some (vI x1), some (vI x2), some (vI x3), some (vI x4), some (vI x5), some (vI xs0), some (vI 1), none] rfl rfl <|
  s_iconst rfl rfl <|
  s_istore [some (vR (some (22, 0, a0))), some (vI x1), some (vI x2), some (vI x3), some (vI x4), some (vI x5), some (vI xs0), some (vI 1), some (vI 0)] rfl rfl <|
  k
theorem b_X12_isLed_43 {d : Nat} {r : PO × PM} {I : Nat → Nat → Int} {S : PS} {a0 : Nat} {x1 x2 x3 x4 x5 x6 x7 x8 : Int} (kt : x6 ≤ x8 → Ev d mX12_isLed (90, [some (vR (some (22, 0, a0))), some (vI x1), some (vI x2), some (vI x3), some (vI x4), some (vI x5), some (vI x6), some (vI x7), some (vI x8)], [], (I, S)) r) (kf : x8 < x6 → Ev d mX12_isLed (50, [some (vR (some (22, 0, a0))), some (vI x1), some (vI x2), some (vI x3), some (vI x4), some (vI x5), some (vI x6), some (vI x7), some (vI x8)], [], (I, S)) r) : Ev d mX12_isLed (43, [some (vR (some (22, 0, a0))), some (vI x1), some (vI x2), some (vI x3), some (vI x4), some (vI x5), some (vI x6), some (vI x7), some (vI x8)], [], (I, S)) r :=
  s_iload rfl rfl rfl <|
  s_iload rfl rfl rfl <|
  s_icmp_ge 90 rfl rfl kt kf
theorem b_X12_isLed_50 {d : Nat} {r : PO × PM} {I : Nat → Nat → Int} {S : PS} {a0 : Nat} {x1 x2 x3 x4 x5 x6 x7 x8 : Int} (kt : x7 = 0 → Ev d mX12_isLed (90, [some (vR (some (22, 0, a0))), some (vI x1), some (vI x2), some (vI x3), some (vI x4), some (vI x5), some (vI x6), some (vI x7), some (vI x8)], [], (I, S)) r) (kf : x7 ≠ 0 → Ev d mX12_isLed (55, [some (vR (some (22, 0, a0))), some (vI x1), some (vI x2), some (vI x3), some (vI x4), some (vI x5), some (vI x6), some (vI x7), some (vI x8)], [], (I, S)) r) : Ev d mX12_isLed (50, [some (vR (some (22, 0, a0))), some (vI x1), some (vI x2), some (vI x3), some (vI x4), some (vI x5), some (vI x6), some (vI x7), some (vI x8)], [], (I, S)) r :=
  s_iload rfl rfl rfl <|
  s_if_eq 90 rfl rfl kt kf
theorem b_X12_isLed_55 {d : Nat} {r : PO × PM} {I : Nat → Nat → Int} {S : PS} {a0 : Nat} {x1 x2 x3 x4 x5 x6 x7 x8 z : Int} {I1 : Nat → Nat → Int} {S1 : PS} (c : Ca d mX12_isFence [vR (some (22, 0, a0)), vI x8] (I, S) (.inl (some (vI z))) (I1, S1)) (k : Ev (d + 1) mX12_isLed (61, [some (vR (some (22, 0, a0))), some (vI x1), some (vI x2), some (vI x3), some (vI x4), some (vI x5), some (vI x6), some (vI x7), some (vI x8)], [vI z], (I1, S1)) r) : Ev (d + 1) mX12_isLed (55, [some (vR (some (22, 0, a0))), some (vI x1), some (vI x2), some (vI x3), some (vI x4), some (vI x5), some (vI x6), some (vI x7), some (vI x8)], [], (I, S)) r :=
  s_aload_n rfl rfl rfl <|
  s_iload rfl rfl rfl <|
  s_cvI rfl rfl rfl rfl rfl c k
theorem b_X12_isLed_61 {d : Nat} {r : PO × PM} {I : Nat → Nat → Int} {S : PS} {a0 : Nat} {x1 x2 x3 x4 x5 x6 x7 x8 xs0 : Int} (kt : xs0 = 0 → Ev d mX12_isLed (77, [some (vR (some (22, 0, a0))), some (vI x1), some (vI x2), some (vI x3), some (vI x4), some (vI x5), some (vI x6), some (vI x7), some (vI x8)], [], (I, S)) r) (kf : xs0 ≠ 0 → Ev d mX12_isLed (64, [some (vR (some (22, 0, a0))), some (vI x1), some (vI x2), some (vI x3), some (vI x4), some (vI x5), some (vI x6), some (vI x7), some (vI x8)], [], (I, S)) r) : Ev d mX12_isLed (61, [some (vR (some (22, 0, a0))), some (vI x1), some (vI x2), some (vI x3), some (vI x4), some (vI x5), some (vI x6), some (vI x7), some (vI x8)], [vI xs0], (I, S)) r :=
  s_if_eq 77 rfl rfl kt kf
theorem b_X12_isLed_64 {d : Nat} {r : PO × PM} {I : Nat → Nat → Int} {S : PS} {a0 : Nat} {x1 x2 x3 x4 x5 x6 x7 x8 z : Int} {I1 : Nat → Nat → Int} {S1 : PS} (c : Ca d mX12_isLower [vR (some (22, 0, a0)), vI x1, vI x4, vI x5, vI x3] (I, S) (.inl (some (vI z))) (I1, S1)) (k : Ev (d + 1) mX12_isLed (74, [some (vR (some (22, 0, a0))), some (vI x1), some (vI x2), some (vI x3), some (vI x4), some (vI x5), some (vI x6), some (vI x7), some (vI x8)], [vI z], (I1, S1)) r) : Ev (d + 1) mX12_isLed (64, [some (vR (some (22, 0, a0))), some (vI x1), some (vI x2), some (vI x3), some (vI x4), some (vI x5), some (vI x6), some (vI x7), some (vI x8)], [], (I, S)) r :=
  s_aload_n rfl rfl rfl <|
  s_iload_n rfl rfl rfl <|
  s_iload rfl rfl rfl <|
  s_iload rfl rfl rfl <|
  s_iload_n rfl rfl rfl <|
  s_cvI rfl rfl rfl rfl rfl c k
theorem b_X12_isLed_74 {d : Nat} {r : PO × PM} {I : Nat → Nat → Int} {S : PS} {a0 : Nat} {x1 x2 x3 x4 x5 x6 x7 x8 xs0 : Int} (kt : xs0 = 0 → Ev d mX12_isLed (81, [some (vR (some (22, 0, a0))), some (vI x1), some (vI x2), some (vI x3), some (vI x4), some (vI x5), some (vI x6), some (vI x7), some (vI x8)], [], (I, S)) r) (kf : xs0 ≠ 0 → Ev d mX12_isLed (77, [some (vR (some (22, 0, a0))), some (vI x1), some (vI x2), some (vI x3), some (vI x4), some (vI x5), some (vI x6), some (vI x7), some (vI x8)], [], (I, S)) r) : Ev d mX12_isLed (74, [some (vR (some (22, 0, a0))), some (vI x1), some (vI x2), some (vI x3), some (vI x4), some (vI x5), some (vI x6), some (vI x7), some (vI x8)], [vI xs0], (I, S)) r :=
  s_if_eq 81 rfl rfl kt kf
theorem b_X12_isLed_77 {d : Nat} {r : PO × PM} {I : Nat → Nat → Int} {S : PS} {a0 : Nat} {x1 x2 x3 x4 x5 x6 x7 x8 : Int} (k : Ev d mX12_isLed (82, [some (vR (some (22, 0, a0))), some (vI x1), some (vI x2), some (vI x3), some (vI x4), some (vI x5), some (vI x6), some (vI x7), some (vI x8)], [vI 1], (I, S)) r) : Ev d mX12_isLed (77, [some (vR (some (22, 0, a0))), some (vI x1), some (vI x2), some (vI x3), some (vI x4), some (vI x5), some (vI x6), some (vI x7), some (vI x8)], [], (I, S)) r :=
  s_iconst rfl rfl <|
  s_goto 82 rfl rfl k
theorem b_X12_isLed_81 {d : Nat} {r : PO × PM} {I : Nat → Nat → Int} {S : PS} {a0 : Nat} {x1 x2 x3 x4 x5 x6 x7 x8 : Int} (k : Ev d mX12_isLed (82, [some (vR (some (22, 0, a0))), some (vI x1), some (vI x2), some (vI x3), some (vI x4), some (vI x5), some (vI x6), some (vI x7), some (vI x8)], [vI 0], (I, S)) r) : Ev d mX12_isLed (81, [some (vR (some (22, 0, a0))), some (vI x1), some (vI x2), some (vI x3), some (vI x4), some (vI x5), some (vI x6), some (vI x7), some (vI x8)], [], (I, S)) r :=
  s_iconst rfl rfl <|
  k
theorem b_X12_isLed_82 {d : Nat} {r : PO × PM} {I : Nat → Nat → Int} {S : PS} {a0 : Nat} {x1 x2 x3 x4 x5 x6 x7 x8 xs0 : Int} (ho1 : -2147483648 ≤ x8 + 1 ∧ x8 + 1 ≤ 2147483647) (k : Ev d mX12_isLed (43, [some (vR (some (22, 0, a0))), some (vI x1), some (vI x2), some (vI x3), some (vI x4), some (vI x5), some (vI x6), some (vI xs0), some (vI (x8 + 1))], [], (I, S)) r) : Ev d mX12_isLed (82, [some (vR (some (22, 0, a0))), some (vI x1), some (vI x2), some (vI x3), some (vI x4), some (vI x5), some (vI x6), some (vI x7), some (vI x8)], [vI xs0], (I, S)) r :=
  s_istore [some (vR (some (22, 0, a0))), some (vI x1), some (vI x2), some (vI x3), some (vI x4), some (vI x5), some (vI x6), some (vI xs0), some (vI x8)] rfl rfl <|
  s_iincp [some (vR (some (22, 0, a0))), some (vI x1), some (vI x2), some (vI x3), some (vI x4), some (vI x5), some (vI x6), some (vI xs0), some (vI (x8 + 1))] rfl rfl ho1 rfl <|
  s_goto 43 rfl rfl k
theorem b_X12_isLed_90 {d : Nat} {r : PO × PM} {I : Nat → Nat → Int} {S : PS} {a0 : Nat} {x1 x2 x3 x4 x5 x6 x7 x8 : Int} (kt : x7 = 0 → Ev d mX12_isLed (97, [some (vR (some (22, 0, a0))), some (vI x1), some (vI x2), some (vI x3), some (vI x4), some (vI x5), some (vI x6), some (vI x7), some (vI x8)], [], (I, S)) r) (kf : x7 ≠ 0 → Ev d mX12_isLed (95, [some (vR (some (22, 0, a0))), some (vI x1), some (vI x2), some (vI x3), some (vI x4), some (vI x5), some (vI x6), some (vI x7), some (vI x8)], [], (I, S)) r) : Ev d mX12_isLed (90, [some (vR (some (22, 0, a0))), some (vI x1), some (vI x2), some (vI x3), some (vI x4), some (vI x5), some (vI x6), some (vI x7), some (vI x8)], [], (I, S)) r :=
  s_iload rfl rfl rfl <|
  s_if_eq 97 rfl rfl kt kf
theorem b_X12_isLed_95 {d : Nat} {I : Nat → Nat → Int} {S : PS} {a0 : Nat} {x1 x2 x3 x4 x5 x6 x7 x8 : Int} : Ev d mX12_isLed (95, [some (vR (some (22, 0, a0))), some (vI x1), some (vI x2), some (vI x3), some (vI x4), some (vI x5), some (vI x6), some (vI x7), some (vI x8)], [], (I, S)) (.inl (some (vI 1)), (I, S)) :=
  s_iconst rfl rfl <|
  s_ret rfl rfl
theorem b_X12_isLed_97 {d : Nat} {r : PO × PM} {I : Nat → Nat → Int} {S : PS} {a0 : Nat} {x1 x2 x3 x4 x5 x6 x7 x8 : Int} (ho1 : -2147483648 ≤ x5 + 1 ∧ x5 + 1 ≤ 2147483647) (k : Ev d mX12_isLed (16, [some (vR (some (22, 0, a0))), some (vI x1), some (vI x2), some (vI x3), some (vI x4), some (vI (x5 + 1)), none, none, none], [], (I, S)) r) : Ev d mX12_isLed (97, [some (vR (some (22, 0, a0))), some (vI x1), some (vI x2), some (vI x3), some (vI x4), some (vI x5), some (vI x6), some (vI x7), some (vI x8)], [], (I, S)) r :=
  s_iincp [some (vR (some (22, 0, a0))), some (vI x1), some (vI x2), some (vI x3), some (vI x4), some (vI (x5 + 1)), some (vI x6), some (vI x7), some (vI x8)] rfl rfl ho1 rfl <|
  s_goto 16 rfl rfl (ev_forget [false, false, false, false, false, false, true, true, true] rfl k)
theorem b_X12_isLed_103 {d : Nat} {I : Nat → Nat → Int} {S : PS} {a0 : Nat} {x1 x2 x3 x4 x5 : Int} : Ev d mX12_isLed (103, [some (vR (some (22, 0, a0))), some (vI x1), some (vI x2), some (vI x3), some (vI x4), some (vI x5), none, none, none], [], (I, S)) (.inl (some (vI 0)), (I, S)) :=
  s_iconst rfl rfl <|
  s_ret rfl rfl
theorem b_X12_isPiece_0 {d : Nat} {r : PO × PM} {I : Nat → Nat → Int} {S : PS} {a0 : Nat} {x1 : Int} (kt : x1 < 0 → Ev d mX12_isPiece (17, [some (vR (some (22, 0, a0))), some (vI x1)], [vR (some (22, 0, a0))], (I, S)) r) (kf : 0 ≤ x1 → Ev d mX12_isPiece (5, [some (vR (some (22, 0, a0))), some (vI x1)], [vR (some (22, 0, a0))], (I, S)) r) : Ev d mX12_isPiece (0, [some (vR (some (22, 0, a0))), some (vI x1)], [], (I, S)) r :=
  s_aload_n rfl rfl rfl <|
  s_iload_n rfl rfl rfl <|
  s_if_lt 17 rfl rfl kt kf
theorem b_X12_isPiece_5 {d : Nat} {r : PO × PM} {I : Nat → Nat → Int} {S : PS} {a0 as0 : Nat} {x1 : Int} (kt : I a0 13 ≤ x1 → Ev d mX12_isPiece (17, [some (vR (some (22, 0, a0))), some (vI x1)], [vR (some (22, 0, as0))], (I, S)) r) (kf : x1 < I a0 13 → Ev d mX12_isPiece (13, [some (vR (some (22, 0, a0))), some (vI x1)], [vR (some (22, 0, as0))], (I, S)) r) : Ev d mX12_isPiece (5, [some (vR (some (22, 0, a0))), some (vI x1)], [vR (some (22, 0, as0))], (I, S)) r :=
  s_iload_n rfl rfl rfl <|
  s_aload_n rfl rfl rfl <|
  s_getI rfl rfl rfl <|
  s_icmp_ge 17 rfl rfl kt kf
theorem b_X12_isPiece_13 {d : Nat} {r : PO × PM} {I : Nat → Nat → Int} {S : PS} {a0 as0 : Nat} {x1 : Int} (k : Ev d mX12_isPiece (18, [some (vR (some (22, 0, a0))), some (vI x1)], [vI 1, vR (some (22, 0, as0))], (I, S)) r) : Ev d mX12_isPiece (13, [some (vR (some (22, 0, a0))), some (vI x1)], [vR (some (22, 0, as0))], (I, S)) r :=
  s_iconst rfl rfl <|
  s_goto 18 rfl rfl k
theorem b_X12_isPiece_17 {d : Nat} {r : PO × PM} {I : Nat → Nat → Int} {S : PS} {a0 as0 : Nat} {x1 : Int} (k : Ev d mX12_isPiece (18, [some (vR (some (22, 0, a0))), some (vI x1)], [vI 0, vR (some (22, 0, as0))], (I, S)) r) : Ev d mX12_isPiece (17, [some (vR (some (22, 0, a0))), some (vI x1)], [vR (some (22, 0, as0))], (I, S)) r :=
  s_iconst rfl rfl <|
  k
theorem b_X12_isPiece_18 {d : Nat} {r : PO × PM} {I : Nat → Nat → Int} {S : PS} {a0 as0 : Nat} {x1 xs1 z : Int} {I1 : Nat → Nat → Int} {S1 : PS} (c : Ca d mX12_right [vR (some (22, 0, as0)), vI xs1, vI 1] (I, S) (.inl (some (vI z))) (I1, S1)) (k : Ev (d + 1) mX12_isPiece (22, [some (vR (some (22, 0, a0))), some (vI x1)], [vI z], (I1, S1)) r) : Ev (d + 1) mX12_isPiece (18, [some (vR (some (22, 0, a0))), some (vI x1)], [vI xs1, vR (some (22, 0, as0))], (I, S)) r :=
  s_iconst rfl rfl <|
  s_cvI rfl rfl rfl rfl rfl c k
theorem b_X12_isPiece_22 {d : Nat} {I : Nat → Nat → Int} {S : PS} {a0 : Nat} {x1 xs0 : Int} (hb1 : xs0 = 0 ∨ xs0 = 1) : Ev d mX12_isPiece (22, [some (vR (some (22, 0, a0))), some (vI x1)], [vI xs0], (I, S)) (.inl (some (vI xs0)), (I, S)) :=
  s_retz rfl rfl hb1
theorem b_X12_isColouring_0 {d : Nat} {r : PO × PM} {I : Nat → Nat → Int} {S : PS} {a0 : Nat} {x1 x2 z : Int} {I1 : Nat → Nat → Int} {S1 : PS} (c : Ca d mX12_isPiece [vR (some (22, 0, a0)), vI x1] (I, S) (.inl (some (vI z))) (I1, S1)) (k : Ev (d + 1) mX12_isColouring (5, [some (vR (some (22, 0, a0))), some (vI x1), some (vI x2)], [vI z], (I1, S1)) r) : Ev (d + 1) mX12_isColouring (0, [some (vR (some (22, 0, a0))), some (vI x1), some (vI x2)], [], (I, S)) r :=
  s_aload_n rfl rfl rfl <|
  s_iload_n rfl rfl rfl <|
  s_cvI rfl rfl rfl rfl rfl c k
theorem b_X12_isColouring_5 {d : Nat} {r : PO × PM} {I : Nat → Nat → Int} {S : PS} {a0 : Nat} {x1 x2 xs0 : Int} (kt : xs0 = 0 → Ev d mX12_isColouring (39, [some (vR (some (22, 0, a0))), some (vI x1), some (vI x2)], [], (I, S)) r) (kf : xs0 ≠ 0 → Ev d mX12_isColouring (8, [some (vR (some (22, 0, a0))), some (vI x1), some (vI x2)], [], (I, S)) r) : Ev d mX12_isColouring (5, [some (vR (some (22, 0, a0))), some (vI x1), some (vI x2)], [vI xs0], (I, S)) r :=
  s_if_eq 39 rfl rfl kt kf
theorem b_X12_isColouring_8 {d : Nat} {r : PO × PM} {I : Nat → Nat → Int} {S : PS} {a0 : Nat} {x1 x2 : Int} (kt : x2 < 0 → Ev d mX12_isColouring (27, [some (vR (some (22, 0, a0))), some (vI x1), some (vI x2)], [vR (some (22, 0, a0))], (I, S)) r) (kf : 0 ≤ x2 → Ev d mX12_isColouring (13, [some (vR (some (22, 0, a0))), some (vI x1), some (vI x2)], [vR (some (22, 0, a0))], (I, S)) r) : Ev d mX12_isColouring (8, [some (vR (some (22, 0, a0))), some (vI x1), some (vI x2)], [], (I, S)) r :=
  s_aload_n rfl rfl rfl <|
  s_iload_n rfl rfl rfl <|
  s_if_lt 27 rfl rfl kt kf
theorem b_X12_isColouring_13 {d : Nat} {r : PO × PM} {I : Nat → Nat → Int} {S : PS} {a0 as0 p1 q1 : Nat} {x1 x2 : Int} (hr1 : S.1 a0 27 = some (0, q1, p1)) (hi2 : 0 ≤ x1 ∧ x1 < (q1 : Nat)) (kt : I p1 x1.toNat ≤ x2 → Ev d mX12_isColouring (27, [some (vR (some (22, 0, a0))), some (vI x1), some (vI x2)], [vR (some (22, 0, as0))], (I, S)) r) (kf : x2 < I p1 x1.toNat → Ev d mX12_isColouring (23, [some (vR (some (22, 0, a0))), some (vI x1), some (vI x2)], [vR (some (22, 0, as0))], (I, S)) r) : Ev d mX12_isColouring (13, [some (vR (some (22, 0, a0))), some (vI x1), some (vI x2)], [vR (some (22, 0, as0))], (I, S)) r :=
  s_iload_n rfl rfl rfl <|
  s_aload_n rfl rfl rfl <|
  s_getR rfl rfl rfl hr1 <|
  s_iload_n rfl rfl rfl <|
  s_iald rfl rfl hi2 <|
  s_icmp_ge 27 rfl rfl kt kf
theorem b_X12_isColouring_23 {d : Nat} {r : PO × PM} {I : Nat → Nat → Int} {S : PS} {a0 as0 : Nat} {x1 x2 : Int} (k : Ev d mX12_isColouring (28, [some (vR (some (22, 0, a0))), some (vI x1), some (vI x2)], [vI 1, vR (some (22, 0, as0))], (I, S)) r) : Ev d mX12_isColouring (23, [some (vR (some (22, 0, a0))), some (vI x1), some (vI x2)], [vR (some (22, 0, as0))], (I, S)) r :=
  s_iconst rfl rfl <|
  s_goto 28 rfl rfl k
theorem b_X12_isColouring_27 {d : Nat} {r : PO × PM} {I : Nat → Nat → Int} {S : PS} {a0 as0 : Nat} {x1 x2 : Int} (k : Ev d mX12_isColouring (28, [some (vR (some (22, 0, a0))), some (vI x1), some (vI x2)], [vI 0, vR (some (22, 0, as0))], (I, S)) r) : Ev d mX12_isColouring (27, [some (vR (some (22, 0, a0))), some (vI x1), some (vI x2)], [vR (some (22, 0, as0))], (I, S)) r :=
  s_iconst rfl rfl <|
  k
theorem b_X12_isColouring_28 {d : Nat} {r : PO × PM} {I : Nat → Nat → Int} {S : PS} {a0 as0 : Nat} {x1 x2 xs1 z : Int} {I1 : Nat → Nat → Int} {S1 : PS} (c : Ca d mX12_right [vR (some (22, 0, as0)), vI xs1, vI 1] (I, S) (.inl (some (vI z))) (I1, S1)) (k : Ev (d + 1) mX12_isColouring (32, [some (vR (some (22, 0, a0))), some (vI x1), some (vI x2)], [vI z], (I1, S1)) r) : Ev (d + 1) mX12_isColouring (28, [some (vR (some (22, 0, a0))), some (vI x1), some (vI x2)], [vI xs1, vR (some (22, 0, as0))], (I, S)) r :=
  s_iconst rfl rfl <|
  s_cvI rfl rfl rfl rfl rfl c k
theorem b_X12_isColouring_32 {d : Nat} {r : PO × PM} {I : Nat → Nat → Int} {S : PS} {a0 : Nat} {x1 x2 xs0 : Int} (kt : xs0 = 0 → Ev d mX12_isColouring (39, [some (vR (some (22, 0, a0))), some (vI x1), some (vI x2)], [], (I, S)) r) (kf : xs0 ≠ 0 → Ev d mX12_isColouring (35, [some (vR (some (22, 0, a0))), some (vI x1), some (vI x2)], [], (I, S)) r) : Ev d mX12_isColouring (32, [some (vR (some (22, 0, a0))), some (vI x1), some (vI x2)], [vI xs0], (I, S)) r :=
  s_if_eq 39 rfl rfl kt kf
theorem b_X12_isColouring_35 {d : Nat} {r : PO × PM} {I : Nat → Nat → Int} {S : PS} {a0 : Nat} {x1 x2 : Int} (k : Ev d mX12_isColouring (40, [some (vR (some (22, 0, a0))), some (vI x1), some (vI x2)], [vI 1], (I, S)) r) : Ev d mX12_isColouring (35, [some (vR (some (22, 0, a0))), some (vI x1), some (vI x2)], [], (I, S)) r :=
  s_iconst rfl rfl <|
  s_goto 40 rfl rfl k
theorem b_X12_isColouring_39 {d : Nat} {r : PO × PM} {I : Nat → Nat → Int} {S : PS} {a0 : Nat} {x1 x2 : Int} (k : Ev d mX12_isColouring (40, [some (vR (some (22, 0, a0))), some (vI x1), some (vI x2)], [vI 0], (I, S)) r) : Ev d mX12_isColouring (39, [some (vR (some (22, 0, a0))), some (vI x1), some (vI x2)], [], (I, S)) r :=
  s_iconst rfl rfl <|
  k
theorem b_X12_isColouring_40 {d : Nat} {I : Nat → Nat → Int} {S : PS} {a0 : Nat} {x1 x2 xs0 : Int} (hb1 : xs0 = 0 ∨ xs0 = 1) : Ev d mX12_isColouring (40, [some (vR (some (22, 0, a0))), some (vI x1), some (vI x2)], [vI xs0], (I, S)) (.inl (some (vI xs0)), (I, S)) :=
  s_retz rfl rfl hb1
theorem b_X12_isWhat_0 {d : Nat} {r : PO × PM} {I : Nat → Nat → Int} {S : PS} {a0 : Nat} {x1 x2 z : Int} {I1 : Nat → Nat → Int} {S1 : PS} (c : Ca d mX12_within [vI x1, vI 0, vI x2] (I, S) (.inl (some (vI z))) (I1, S1)) (k : Ev (d + 1) mX12_isWhat (7, [some (vR (some (22, 0, a0))), some (vI x1), some (vI x2)], [vI z, vR (some (22, 0, a0))], (I1, S1)) r) : Ev (d + 1) mX12_isWhat (0, [some (vR (some (22, 0, a0))), some (vI x1), some (vI x2)], [], (I, S)) r :=
  s_aload_n rfl rfl rfl <|
  s_iload_n rfl rfl rfl <|
  s_iconst rfl rfl <|
  s_iload_n rfl rfl rfl <|
  s_csI rfl rfl rfl rfl rfl rfl c k
theorem b_X12_isWhat_7 {d : Nat} {r : PO × PM} {I : Nat → Nat → Int} {S : PS} {a0 as0 : Nat} {x1 x2 xs1 z : Int} {I1 : Nat → Nat → Int} {S1 : PS} (c : Ca d mX12_right [vR (some (22, 0, as0)), vI xs1, vI 1] (I, S) (.inl (some (vI z))) (I1, S1)) (k : Ev (d + 1) mX12_isWhat (11, [some (vR (some (22, 0, a0))), some (vI x1), some (vI x2)], [vI z], (I1, S1)) r) : Ev (d + 1) mX12_isWhat (7, [some (vR (some (22, 0, a0))), some (vI x1), some (vI x2)], [vI xs1, vR (some (22, 0, as0))], (I, S)) r :=
  s_iconst rfl rfl <|
  s_cvI rfl rfl rfl rfl rfl c k
theorem b_X12_isWhat_11 {d : Nat} {I : Nat → Nat → Int} {S : PS} {a0 : Nat} {x1 x2 xs0 : Int} (hb1 : xs0 = 0 ∨ xs0 = 1) : Ev d mX12_isWhat (11, [some (vR (some (22, 0, a0))), some (vI x1), some (vI x2)], [vI xs0], (I, S)) (.inl (some (vI xs0)), (I, S)) :=
  s_retz rfl rfl hb1
theorem b_X12_find_0 {d : Nat} {r : PO × PM} {I : Nat → Nat → Int} {S : PS} {a0 : Nat} {x1 x2 : Int} (k : Ev d mX12_find (2, [some (vR (some (22, 0, a0))), some (vI x1), some (vI x2), some (vI 0)], [], (I, S)) r) : Ev d mX12_find (0, [some (vR (some (22, 0, a0))), some (vI x1), some (vI x2), none], [], (I, S)) r :=
  s_iconst rfl rfl <|
  s_istore_n [some (vR (some (22, 0, a0))), some (vI x1), some (vI x2), some (vI 0)] rfl rfl <|
  k
theorem b_X12_find_2 {d : Nat} {r : PO × PM} {I : Nat → Nat → Int} {S : PS} {a0 p1 q1 : Nat} {x1 x2 x3 : Int} (hr1 : S.1 a0 27 = some (0, q1, p1)) (hi2 : 0 ≤ x1 ∧ x1 < (q1 : Nat)) (kt : I p1 x1.toNat ≤ x3 → Ev d mX12_find (35, [some (vR (some (22, 0, a0))), some (vI x1), some (vI x2), some (vI x3)], [], (I, S)) r) (kf : x3 < I p1 x1.toNat → Ev d mX12_find (12, [some (vR (some (22, 0, a0))), some (vI x1), some (vI x2), some (vI x3)], [], (I, S)) r) : Ev d mX12_find (2, [some (vR (some (22, 0, a0))), some (vI x1), some (vI x2), some (vI x3)], [], (I, S)) r :=
  s_iload_n rfl rfl rfl <|
  s_aload_n rfl rfl rfl <|
  s_getR rfl rfl rfl hr1 <|
  s_iload_n rfl rfl rfl <|
  s_iald rfl rfl hi2 <|
  s_icmp_ge 35 rfl rfl kt kf
theorem b_X12_find_12 {d : Nat} {r : PO × PM} {I : Nat → Nat → Int} {S : PS} {a0 p1 q1 : Nat} {x1 x2 x3 : Int} (hr1 : S.1 a0 28 = some (0, q1, p1)) (ho2 : -2147483648 ≤ 96 * x1 ∧ 96 * x1 ≤ 2147483647) (ho3 : -2147483648 ≤ (96 * x1) + x3 ∧ (96 * x1) + x3 ≤ 2147483647) (hi4 : 0 ≤ (96 * x1) + x3 ∧ (96 * x1) + x3 < (q1 : Nat)) (kt : I p1 ((96 * x1) + x3).toNat ≠ x2 → Ev d mX12_find (29, [some (vR (some (22, 0, a0))), some (vI x1), some (vI x2), some (vI x3)], [], (I, S)) r) (kf : I p1 ((96 * x1) + x3).toNat = x2 → Ev d mX12_find (27, [some (vR (some (22, 0, a0))), some (vI x1), some (vI x2), some (vI x3)], [], (I, S)) r) : Ev d mX12_find (12, [some (vR (some (22, 0, a0))), some (vI x1), some (vI x2), some (vI x3)], [], (I, S)) r :=
  s_aload_n rfl rfl rfl <|
  s_getR rfl rfl rfl hr1 <|
  s_bipush rfl rfl <|
  s_iload_n rfl rfl rfl <|
  s_imulp rfl ho2 <|
  s_iload_n rfl rfl rfl <|
  s_iaddp rfl ho3 <|
  s_iald rfl rfl hi4 <|
  s_iload_n rfl rfl rfl <|
  s_icmp_ne 29 rfl rfl kt kf
theorem b_X12_find_27 {d : Nat} {I : Nat → Nat → Int} {S : PS} {a0 : Nat} {x1 x2 x3 : Int} : Ev d mX12_find (27, [some (vR (some (22, 0, a0))), some (vI x1), some (vI x2), some (vI x3)], [], (I, S)) (.inl (some (vI x3)), (I, S)) :=
  s_iload_n rfl rfl rfl <|
  s_ret rfl rfl
theorem b_X12_find_29 {d : Nat} {r : PO × PM} {I : Nat → Nat → Int} {S : PS} {a0 : Nat} {x1 x2 x3 : Int} (ho1 : -2147483648 ≤ x3 + 1 ∧ x3 + 1 ≤ 2147483647) (k : Ev d mX12_find (2, [some (vR (some (22, 0, a0))), some (vI x1), some (vI x2), some (vI (x3 + 1))], [], (I, S)) r) : Ev d mX12_find (29, [some (vR (some (22, 0, a0))), some (vI x1), some (vI x2), some (vI x3)], [], (I, S)) r :=
  s_iincp [some (vR (some (22, 0, a0))), some (vI x1), some (vI x2), some (vI (x3 + 1))] rfl rfl ho1 rfl <|
  s_goto 2 rfl rfl k
theorem b_X12_find_35 {d : Nat} {I : Nat → Nat → Int} {S : PS} {a0 : Nat} {x1 x2 x3 : Int} : Ev d mX12_find (35, [some (vR (some (22, 0, a0))), some (vI x1), some (vI x2), some (vI x3)], [], (I, S)) (.inl (some (vI (-1))), (I, S)) :=
  s_iconst rfl rfl <|
  s_ret rfl rfl
theorem b_X12_sumOf_0 {d : Nat} {r : PO × PM} {I : Nat → Nat → Int} {S : PS} {a0 n1 a1 : Nat} {x2 : Int} (k : Ev d mX12_sumOf (5, [some (vR (some (22, 0, a0))), some (vR (some (0, n1, a1))), some (vI x2), some (vI 0), some (vI 0)], [], (I, S)) r) : Ev d mX12_sumOf (0, [some (vR (some (22, 0, a0))), some (vR (some (0, n1, a1))), some (vI x2), none, none], [], (I, S)) r :=
  s_iconst rfl rfl <|
  s_istore_n [some (vR (some (22, 0, a0))), some (vR (some (0, n1, a1))), some (vI x2), some (vI 0), none] rfl rfl <|
  s_iconst rfl rfl <|
  s_istore [some (vR (some (22, 0, a0))), some (vR (some (0, n1, a1))), some (vI x2), some (vI 0), some (vI 0)] rfl rfl <|
  k
theorem b_X12_sumOf_5 {d : Nat} {r : PO × PM} {I : Nat → Nat → Int} {S : PS} {a0 n1 a1 p1 q1 : Nat} {x2 x3 x4 : Int} (hr1 : S.1 a0 27 = some (0, q1, p1)) (hi2 : 0 ≤ x2 ∧ x2 < (q1 : Nat)) (kt : I p1 x2.toNat ≤ x4 → Ev d mX12_sumOf (34, [some (vR (some (22, 0, a0))), some (vR (some (0, n1, a1))), some (vI x2), some (vI x3), some (vI x4)], [], (I, S)) r) (kf : x4 < I p1 x2.toNat → Ev d mX12_sumOf (16, [some (vR (some (22, 0, a0))), some (vR (some (0, n1, a1))), some (vI x2), some (vI x3), some (vI x4)], [], (I, S)) r) : Ev d mX12_sumOf (5, [some (vR (some (22, 0, a0))), some (vR (some (0, n1, a1))), some (vI x2), some (vI x3), some (vI x4)], [], (I, S)) r :=
  s_iload rfl rfl rfl <|
  s_aload_n rfl rfl rfl <|
  s_getR rfl rfl rfl hr1 <|
  s_iload_n rfl rfl rfl <|
  s_iald rfl rfl hi2 <|
  s_icmp_ge 34 rfl rfl kt kf
theorem b_X12_sumOf_16 {d : Nat} {r : PO × PM} {I : Nat → Nat → Int} {S : PS} {a0 n1 a1 : Nat} {x2 x3 x4 : Int} (ho1 : -2147483648 ≤ 96 * x2 ∧ 96 * x2 ≤ 2147483647) (ho2 : -2147483648 ≤ (96 * x2) + x4 ∧ (96 * x2) + x4 ≤ 2147483647) (hi3 : 0 ≤ (96 * x2) + x4 ∧ (96 * x2) + x4 < (n1 : Nat)) (ho4 : -2147483648 ≤ x3 + (I a1 ((96 * x2) + x4).toNat) ∧ x3 + (I a1 ((96 * x2) + x4).toNat) ≤ 2147483647) (ho5 : -2147483648 ≤ x4 + 1 ∧ x4 + 1 ≤ 2147483647) (k : Ev d mX12_sumOf (5, [some (vR (some (22, 0, a0))), some (vR (some (0, n1, a1))), some (vI x2), some (vI (x3 + (I a1 ((96 * x2) + x4).toNat))), some (vI (x4 + 1))], [], (I, S)) r) : Ev d mX12_sumOf (16, [some (vR (some (22, 0, a0))), some (vR (some (0, n1, a1))), some (vI x2), some (vI x3), some (vI x4)], [], (I, S)) r :=
  s_iload_n rfl rfl rfl <|
  s_aload_n rfl rfl rfl <|
  s_bipush rfl rfl <|
  s_iload_n rfl rfl rfl <|
  s_imulp rfl ho1 <|
  s_iload rfl rfl rfl <|
  s_iaddp rfl ho2 <|
  s_iald rfl rfl hi3 <|
  s_iaddp rfl ho4 <|
  s_istore_n [some (vR (some (22, 0, a0))), some (vR (some (0, n1, a1))), some (vI x2), some (vI (x3 + (I a1 ((96 * x2) + x4).toNat))), some (vI x4)] rfl rfl <|
  s_iincp [some (vR (some (22, 0, a0))), some (vR (some (0, n1, a1))), some (vI x2), some (vI (x3 + (I a1 ((96 * x2) + x4).toNat))), some (vI (x4 + 1))] rfl rfl ho5 rfl <|
  s_goto 5 rfl rfl k
theorem b_X12_sumOf_34 {d : Nat} {I : Nat → Nat → Int} {S : PS} {a0 n1 a1 : Nat} {x2 x3 x4 : Int} : Ev d mX12_sumOf (34, [some (vR (some (22, 0, a0))), some (vR (some (0, n1, a1))), some (vI x2), some (vI x3), some (vI x4)], [], (I, S)) (.inl (some (vI x3)), (I, S)) :=
  s_iload_n rfl rfl rfl <|
  s_ret rfl rfl
theorem b_X12_badOnes_0 {d : Nat} {r : PO × PM} {I : Nat → Nat → Int} {S : PS} {a0 : Nat} {x1 : Int} (k : Ev d mX12_badOnes (4, [some (vR (some (22, 0, a0))), some (vI x1), some (vI 0), some (vI 0)], [], (I, S)) r) : Ev d mX12_badOnes (0, [some (vR (some (22, 0, a0))), some (vI x1), none, none], [], (I, S)) r :=
  s_iconst rfl rfl <|
  s_istore_n [some (vR (some (22, 0, a0))), some (vI x1), some (vI 0), none] rfl rfl <|
  s_iconst rfl rfl <|
  s_istore_n [some (vR (some (22, 0, a0))), some (vI x1), some (vI 0), some (vI 0)] rfl rfl <|
  k
theorem b_X12_badOnes_4 {d : Nat} {r : PO × PM} {I : Nat → Nat → Int} {S : PS} {a0 p1 q1 : Nat} {x1 x2 x3 : Int} (hr1 : S.1 a0 27 = some (0, q1, p1)) (hi2 : 0 ≤ x1 ∧ x1 < (q1 : Nat)) (kt : I p1 x1.toNat ≤ x3 → Ev d mX12_badOnes (43, [some (vR (some (22, 0, a0))), some (vI x1), some (vI x2), some (vI x3)], [], (I, S)) r) (kf : x3 < I p1 x1.toNat → Ev d mX12_badOnes (14, [some (vR (some (22, 0, a0))), some (vI x1), some (vI x2), some (vI x3)], [], (I, S)) r) : Ev d mX12_badOnes (4, [some (vR (some (22, 0, a0))), some (vI x1), some (vI x2), some (vI x3)], [], (I, S)) r :=
  s_iload_n rfl rfl rfl <|
  s_aload_n rfl rfl rfl <|
  s_getR rfl rfl rfl hr1 <|
  s_iload_n rfl rfl rfl <|
  s_iald rfl rfl hi2 <|
  s_icmp_ge 43 rfl rfl kt kf
theorem b_X12_badOnes_14 {d : Nat} {r : PO × PM} {I : Nat → Nat → Int} {S : PS} {a0 p1 q1 : Nat} {x1 x2 x3 : Int} (hr1 : S.1 a0 31 = some (0, q1, p1)) (ho2 : -2147483648 ≤ 96 * x1 ∧ 96 * x1 ≤ 2147483647) (ho3 : -2147483648 ≤ (96 * x1) + x3 ∧ (96 * x1) + x3 ≤ 2147483647) (hi4 : 0 ≤ (96 * x1) + x3 ∧ (96 * x1) + x3 < (q1 : Nat)) (kt : I p1 ((96 * x1) + x3).toNat ≠ (-1) → Ev d mX12_badOnes (34, [some (vR (some (22, 0, a0))), some (vI x1), some (vI x2), some (vI x3)], [vI x2], (I, S)) r) (kf : I p1 ((96 * x1) + x3).toNat = (-1) → Ev d mX12_badOnes (30, [some (vR (some (22, 0, a0))), some (vI x1), some (vI x2), some (vI x3)], [vI x2], (I, S)) r) : Ev d mX12_badOnes (14, [some (vR (some (22, 0, a0))), some (vI x1), some (vI x2), some (vI x3)], [], (I, S)) r :=
  s_iload_n rfl rfl rfl <|
  s_aload_n rfl rfl rfl <|
  s_getR rfl rfl rfl hr1 <|
  s_bipush rfl rfl <|
  s_iload_n rfl rfl rfl <|
  s_imulp rfl ho2 <|
  s_iload_n rfl rfl rfl <|
  s_iaddp rfl ho3 <|
  s_iald rfl rfl hi4 <|
  s_iconst rfl rfl <|
  s_icmp_ne 34 rfl rfl kt kf
theorem b_X12_badOnes_30 {d : Nat} {r : PO × PM} {I : Nat → Nat → Int} {S : PS} {a0 : Nat} {x1 x2 x3 xs0 : Int} (k : Ev d mX12_badOnes (35, [some (vR (some (22, 0, a0))), some (vI x1), some (vI x2), some (vI x3)], [vI 1, vI xs0], (I, S)) r) : Ev d mX12_badOnes (30, [some (vR (some (22, 0, a0))), some (vI x1), some (vI x2), some (vI x3)], [vI xs0], (I, S)) r :=
  s_iconst rfl rfl <|
  s_goto 35 rfl rfl k
theorem b_X12_badOnes_34 {d : Nat} {r : PO × PM} {I : Nat → Nat → Int} {S : PS} {a0 : Nat} {x1 x2 x3 xs0 : Int} (k : Ev d mX12_badOnes (35, [some (vR (some (22, 0, a0))), some (vI x1), some (vI x2), some (vI x3)], [vI 0, vI xs0], (I, S)) r) : Ev d mX12_badOnes (34, [some (vR (some (22, 0, a0))), some (vI x1), some (vI x2), some (vI x3)], [vI xs0], (I, S)) r :=
  s_iconst rfl rfl <|
  k
theorem b_X12_badOnes_35 {d : Nat} {r : PO × PM} {I : Nat → Nat → Int} {S : PS} {a0 : Nat} {x1 x2 x3 xs0 xs1 : Int} (ho1 : -2147483648 ≤ xs0 + xs1 ∧ xs0 + xs1 ≤ 2147483647) (ho2 : -2147483648 ≤ x3 + 1 ∧ x3 + 1 ≤ 2147483647) (k : Ev d mX12_badOnes (4, [some (vR (some (22, 0, a0))), some (vI x1), some (vI (xs0 + xs1)), some (vI (x3 + 1))], [], (I, S)) r) : Ev d mX12_badOnes (35, [some (vR (some (22, 0, a0))), some (vI x1), some (vI x2), some (vI x3)], [vI xs1, vI xs0], (I, S)) r :=
  s_iaddp rfl ho1 <|
  s_istore_n [some (vR (some (22, 0, a0))), some (vI x1), some (vI (xs0 + xs1)), some (vI x3)] rfl rfl <|
  s_iincp [some (vR (some (22, 0, a0))), some (vI x1), some (vI (xs0 + xs1)), some (vI (x3 + 1))] rfl rfl ho2 rfl <|
  s_goto 4 rfl rfl k
theorem b_X12_badOnes_43 {d : Nat} {I : Nat → Nat → Int} {S : PS} {a0 : Nat} {x1 x2 x3 : Int} : Ev d mX12_badOnes (43, [some (vR (some (22, 0, a0))), some (vI x1), some (vI x2), some (vI x3)], [], (I, S)) (.inl (some (vI x2)), (I, S)) :=
  s_iload_n rfl rfl rfl <|
  s_ret rfl rfl
theorem b_X12_rounds_0 {d : Nat} {r : PO × PM} {I : Nat → Nat → Int} {S : PS} {a0 : Nat} {x1 : Int} (k : Ev d mX12_rounds (4, [some (vR (some (22, 0, a0))), some (vI x1), some (vI 0), some (vI 0)], [], (I, S)) r) : Ev d mX12_rounds (0, [some (vR (some (22, 0, a0))), some (vI x1), none, none], [], (I, S)) r :=
  s_iconst rfl rfl <|
  s_istore_n [some (vR (some (22, 0, a0))), some (vI x1), some (vI 0), none] rfl rfl <|
  s_iconst rfl rfl <|
  s_istore_n [some (vR (some (22, 0, a0))), some (vI x1), some (vI 0), some (vI 0)] rfl rfl <|
  k
theorem b_X12_rounds_4 {d : Nat} {r : PO × PM} {I : Nat → Nat → Int} {S : PS} {a0 p1 q1 : Nat} {x1 x2 x3 : Int} (hr1 : S.1 a0 27 = some (0, q1, p1)) (hi2 : 0 ≤ x1 ∧ x1 < (q1 : Nat)) (kt : I p1 x1.toNat ≤ x3 → Ev d mX12_rounds (51, [some (vR (some (22, 0, a0))), some (vI x1), some (vI x2), some (vI x3)], [], (I, S)) r) (kf : x3 < I p1 x1.toNat → Ev d mX12_rounds (14, [some (vR (some (22, 0, a0))), some (vI x1), some (vI x2), some (vI x3)], [], (I, S)) r) : Ev d mX12_rounds (4, [some (vR (some (22, 0, a0))), some (vI x1), some (vI x2), some (vI x3)], [], (I, S)) r :=
  s_iload_n rfl rfl rfl <|
  s_aload_n rfl rfl rfl <|
  s_getR rfl rfl rfl hr1 <|
  s_iload_n rfl rfl rfl <|
  s_iald rfl rfl hi2 <|
  s_icmp_ge 51 rfl rfl kt kf
theorem b_X12_rounds_14 {d : Nat} {r : PO × PM} {I : Nat → Nat → Int} {S : PS} {a0 p1 q1 : Nat} {x1 x2 x3 : Int} (hr1 : S.1 a0 31 = some (0, q1, p1)) (ho2 : -2147483648 ≤ 96 * x1 ∧ 96 * x1 ≤ 2147483647) (ho3 : -2147483648 ≤ (96 * x1) + x3 ∧ (96 * x1) + x3 ≤ 2147483647) (hi4 : 0 ≤ (96 * x1) + x3 ∧ (96 * x1) + x3 < (q1 : Nat)) (kt : I p1 ((96 * x1) + x3).toNat ≤ x2 → Ev d mX12_rounds (43, [some (vR (some (22, 0, a0))), some (vI x1), some (vI x2), some (vI x3)], [], (I, S)) r) (kf : x2 < I p1 ((96 * x1) + x3).toNat → Ev d mX12_rounds (29, [some (vR (some (22, 0, a0))), some (vI x1), some (vI x2), some (vI x3)], [], (I, S)) r) : Ev d mX12_rounds (14, [some (vR (some (22, 0, a0))), some (vI x1), some (vI x2), some (vI x3)], [], (I, S)) r :=
  s_aload_n rfl rfl rfl <|
  s_getR rfl rfl rfl hr1 <|
  s_bipush rfl rfl <|
  s_iload_n rfl rfl rfl <|
  s_imulp rfl ho2 <|
  s_iload_n rfl rfl rfl <|
  s_iaddp rfl ho3 <|
  s_iald rfl rfl hi4 <|
  s_iload_n rfl rfl rfl <|
  s_icmp_le 43 rfl rfl kt kf
theorem b_X12_rounds_29 {d : Nat} {r : PO × PM} {I : Nat → Nat → Int} {S : PS} {a0 p1 q1 : Nat} {x1 x2 x3 : Int} (hr1 : S.1 a0 31 = some (0, q1, p1)) (ho2 : -2147483648 ≤ 96 * x1 ∧ 96 * x1 ≤ 2147483647) (ho3 : -2147483648 ≤ (96 * x1) + x3 ∧ (96 * x1) + x3 ≤ 2147483647) (hi4 : 0 ≤ (96 * x1) + x3 ∧ (96 * x1) + x3 < (q1 : Nat)) (k : Ev d mX12_rounds (44, [some (vR (some (22, 0, a0))), some (vI x1), some (vI x2), some (vI x3)], [vI (I p1 ((96 * x1) + x3).toNat)], (I, S)) r) : Ev d mX12_rounds (29, [some (vR (some (22, 0, a0))), some (vI x1), some (vI x2), some (vI x3)], [], (I, S)) r :=
  s_aload_n rfl rfl rfl <|
  s_getR rfl rfl rfl hr1 <|
  s_bipush rfl rfl <|
  s_iload_n rfl rfl rfl <|
  s_imulp rfl ho2 <|
  s_iload_n rfl rfl rfl <|
  s_iaddp rfl ho3 <|
  s_iald rfl rfl hi4 <|
  s_goto 44 rfl rfl k
theorem b_X12_rounds_43 {d : Nat} {r : PO × PM} {I : Nat → Nat → Int} {S : PS} {a0 : Nat} {x1 x2 x3 : Int} (k : Ev d mX12_rounds (44, [some (vR (some (22, 0, a0))), some (vI x1), some (vI x2), some (vI x3)], [vI x2], (I, S)) r) : Ev d mX12_rounds (43, [some (vR (some (22, 0, a0))), some (vI x1), some (vI x2), some (vI x3)], [], (I, S)) r :=
  s_iload_n rfl rfl rfl <|
  k
theorem b_X12_rounds_44 {d : Nat} {r : PO × PM} {I : Nat → Nat → Int} {S : PS} {a0 : Nat} {x1 x2 x3 xs0 : Int} (ho1 : -2147483648 ≤ x3 + 1 ∧ x3 + 1 ≤ 2147483647) (k : Ev d mX12_rounds (4, [some (vR (some (22, 0, a0))), some (vI x1), some (vI xs0), some (vI (x3 + 1))], [], (I, S)) r) : Ev d mX12_rounds (44, [some (vR (some (22, 0, a0))), some (vI x1), some (vI x2), some (vI x3)], [vI xs0], (I, S)) r :=
  s_istore_n [some (vR (some (22, 0, a0))), some (vI x1), some (vI xs0), some (vI x3)] rfl rfl <|
  s_iincp [some (vR (some (22, 0, a0))), some (vI x1), some (vI xs0), some (vI (x3 + 1))] rfl rfl ho1 rfl <|
  s_goto 4 rfl rfl k
theorem b_X12_rounds_51 {d : Nat} {I : Nat → Nat → Int} {S : PS} {a0 : Nat} {x1 x2 x3 : Int} : Ev d mX12_rounds (51, [some (vR (some (22, 0, a0))), some (vI x1), some (vI x2), some (vI x3)], [], (I, S)) (.inl (some (vI x2)), (I, S)) :=
  s_iload_n rfl rfl rfl <|
  s_ret rfl rfl
theorem b_X12_isC_0 {d : Nat} {r : PO × PM} {I : Nat → Nat → Int} {S : PS} {a0 p1 q1 : Nat} {x1 : Int} (hr1 : S.1 a0 19 = some (0, q1, p1)) (ho2 : -2147483648 ≤ 20 * x1 ∧ 20 * x1 ≤ 2147483647) (ho3 : -2147483648 ≤ (20 * x1) + 10 ∧ (20 * x1) + 10 ≤ 2147483647) (hi4 : 0 ≤ (20 * x1) + 10 ∧ (20 * x1) + 10 < (q1 : Nat)) (kt : I p1 ((20 * x1) + 10).toNat = 0 → Ev d mX12_isC (27, [some (vR (some (22, 0, a0))), some (vI x1), none], [], (I, S)) r) (kf : I p1 ((20 * x1) + 10).toNat ≠ 0 → Ev d mX12_isC (15, [some (vR (some (22, 0, a0))), some (vI x1), none], [], (I, S)) r) : Ev d mX12_isC (0, [some (vR (some (22, 0, a0))), some (vI x1), none], [], (I, S)) r :=
  s_aload_n rfl rfl rfl <|
  s_getR rfl rfl rfl hr1 <|
  s_bipush rfl rfl <|
  s_iload_n rfl rfl rfl <|
  s_imulp rfl ho2 <|
  s_bipush rfl rfl <|
  s_iaddp rfl ho3 <|
  s_iald rfl rfl hi4 <|
  s_if_eq 27 rfl rfl kt kf
theorem b_X12_isC_15 {d : Nat} {r : PO × PM} {I : Nat → Nat → Int} {S : PS} {a0 p1 q1 : Nat} {x1 z : Int} {I1 : Nat → Nat → Int} {S1 : PS} (hr1 : S.1 a0 30 = some (0, q1, p1)) (c : Ca d mX12_sumOf [vR (some (22, 0, a0)), vR (some (0, q1, p1)), vI x1] (I, S) (.inl (some (vI z))) (I1, S1)) (k : Ev (d + 1) mX12_isC (24, [some (vR (some (22, 0, a0))), some (vI x1), none], [vI z], (I1, S1)) r) : Ev (d + 1) mX12_isC (15, [some (vR (some (22, 0, a0))), some (vI x1), none], [], (I, S)) r :=
  s_aload_n rfl rfl rfl <|
  s_aload_n rfl rfl rfl <|
  s_getR rfl rfl rfl hr1 <|
  s_iload_n rfl rfl rfl <|
  s_cvI rfl rfl rfl rfl rfl c k
theorem b_X12_isC_24 {d : Nat} {r : PO × PM} {I : Nat → Nat → Int} {S : PS} {a0 : Nat} {x1 xs0 : Int} (kt : xs0 ≠ 0 → Ev d mX12_isC (29, [some (vR (some (22, 0, a0))), some (vI x1), none], [], (I, S)) r) (kf : xs0 = 0 → Ev d mX12_isC (27, [some (vR (some (22, 0, a0))), some (vI x1), none], [], (I, S)) r) : Ev d mX12_isC (24, [some (vR (some (22, 0, a0))), some (vI x1), none], [vI xs0], (I, S)) r :=
  s_if_ne 29 rfl rfl kt kf
theorem b_X12_isC_27 {d : Nat} {I : Nat → Nat → Int} {S : PS} {a0 : Nat} {x1 : Int} : Ev d mX12_isC (27, [some (vR (some (22, 0, a0))), some (vI x1), none], [], (I, S)) (.inl (some (vI 0)), (I, S)) :=
  s_iconst rfl rfl <|
  s_ret rfl rfl
theorem b_X12_isC_29 {d : Nat} {r : PO × PM} {I : Nat → Nat → Int} {S : PS} {a0 : Nat} {x1 : Int} (k : Ev d mX12_isC (31, [some (vR (some (22, 0, a0))), some (vI x1), some (vI 0)], [], (I, S)) r) : Ev d mX12_isC (29, [some (vR (some (22, 0, a0))), some (vI x1), none], [], (I, S)) r :=
  s_iconst rfl rfl <|
  s_istore_n [some (vR (some (22, 0, a0))), some (vI x1), some (vI 0)] rfl rfl <|
  k
theorem b_X12_isC_31 {d : Nat} {r : PO × PM} {I : Nat → Nat → Int} {S : PS} {a0 p1 q1 : Nat} {x1 x2 : Int} (hr1 : S.1 a0 27 = some (0, q1, p1)) (hi2 : 0 ≤ x1 ∧ x1 < (q1 : Nat)) (kt : I p1 x1.toNat ≤ x2 → Ev d mX12_isC (79, [some (vR (some (22, 0, a0))), some (vI x1), some (vI x2)], [], (I, S)) r) (kf : x2 < I p1 x1.toNat → Ev d mX12_isC (41, [some (vR (some (22, 0, a0))), some (vI x1), some (vI x2)], [], (I, S)) r) : Ev d mX12_isC (31, [some (vR (some (22, 0, a0))), some (vI x1), some (vI x2)], [], (I, S)) r :=
  s_iload_n rfl rfl rfl <|
  s_aload_n rfl rfl rfl <|
  s_getR rfl rfl rfl hr1 <|
  s_iload_n rfl rfl rfl <|
  s_iald rfl rfl hi2 <|
  s_icmp_ge 79 rfl rfl kt kf
theorem b_X12_isC_41 {d : Nat} {r : PO × PM} {I : Nat → Nat → Int} {S : PS} {a0 p1 q1 : Nat} {x1 x2 : Int} (hr1 : S.1 a0 30 = some (0, q1, p1)) (ho2 : -2147483648 ≤ 96 * x1 ∧ 96 * x1 ≤ 2147483647) (ho3 : -2147483648 ≤ (96 * x1) + x2 ∧ (96 * x1) + x2 ≤ 2147483647) (hi4 : 0 ≤ (96 * x1) + x2 ∧ (96 * x1) + x2 < (q1 : Nat)) (kt : I p1 ((96 * x1) + x2).toNat ≠ 1 → Ev d mX12_isC (73, [some (vR (some (22, 0, a0))), some (vI x1), some (vI x2)], [], (I, S)) r) (kf : I p1 ((96 * x1) + x2).toNat = 1 → Ev d mX12_isC (56, [some (vR (some (22, 0, a0))), some (vI x1), some (vI x2)], [], (I, S)) r) : Ev d mX12_isC (41, [some (vR (some (22, 0, a0))), some (vI x1), some (vI x2)], [], (I, S)) r :=
  s_aload_n rfl rfl rfl <|
  s_getR rfl rfl rfl hr1 <|
  s_bipush rfl rfl <|
  s_iload_n rfl rfl rfl <|
  s_imulp rfl ho2 <|
  s_iload_n rfl rfl rfl <|
  s_iaddp rfl ho3 <|
  s_iald rfl rfl hi4 <|
  s_iconst rfl rfl <|
  s_icmp_ne 73 rfl rfl kt kf
theorem b_X12_isC_56 {d : Nat} {r : PO × PM} {I : Nat → Nat → Int} {S : PS} {a0 p1 q1 : Nat} {x1 x2 : Int} (hr1 : S.1 a0 31 = some (0, q1, p1)) (ho2 : -2147483648 ≤ 96 * x1 ∧ 96 * x1 ≤ 2147483647) (ho3 : -2147483648 ≤ (96 * x1) + x2 ∧ (96 * x1) + x2 ≤ 2147483647) (hi4 : 0 ≤ (96 * x1) + x2 ∧ (96 * x1) + x2 < (q1 : Nat)) (kt : I p1 ((96 * x1) + x2).toNat ≠ (-1) → Ev d mX12_isC (73, [some (vR (some (22, 0, a0))), some (vI x1), some (vI x2)], [], (I, S)) r) (kf : I p1 ((96 * x1) + x2).toNat = (-1) → Ev d mX12_isC (71, [some (vR (some (22, 0, a0))), some (vI x1), some (vI x2)], [], (I, S)) r) : Ev d mX12_isC (56, [some (vR (some (22, 0, a0))), some (vI x1), some (vI x2)], [], (I, S)) r :=
  s_aload_n rfl rfl rfl <|
  s_getR rfl rfl rfl hr1 <|
  s_bipush rfl rfl <|
  s_iload_n rfl rfl rfl <|
  s_imulp rfl ho2 <|
  s_iload_n rfl rfl rfl <|
  s_iaddp rfl ho3 <|
  s_iald rfl rfl hi4 <|
  s_iconst rfl rfl <|
  s_icmp_ne 73 rfl rfl kt kf
theorem b_X12_isC_71 {d : Nat} {I : Nat → Nat → Int} {S : PS} {a0 : Nat} {x1 x2 : Int} : Ev d mX12_isC (71, [some (vR (some (22, 0, a0))), some (vI x1), some (vI x2)], [], (I, S)) (.inl (some (vI 0)), (I, S)) :=
  s_iconst rfl rfl <|
  s_ret rfl rfl
theorem b_X12_isC_73 {d : Nat} {r : PO × PM} {I : Nat → Nat → Int} {S : PS} {a0 : Nat} {x1 x2 : Int} (ho1 : -2147483648 ≤ x2 + 1 ∧ x2 + 1 ≤ 2147483647) (k : Ev d mX12_isC (31, [some (vR (some (22, 0, a0))), some (vI x1), some (vI (x2 + 1))], [], (I, S)) r) : Ev d mX12_isC (73, [some (vR (some (22, 0, a0))), some (vI x1), some (vI x2)], [], (I, S)) r :=
  s_iincp [some (vR (some (22, 0, a0))), some (vI x1), some (vI (x2 + 1))] rfl rfl ho1 rfl <|
  s_goto 31 rfl rfl k
theorem b_X12_isC_79 {d : Nat} {I : Nat → Nat → Int} {S : PS} {a0 : Nat} {x1 x2 : Int} : Ev d mX12_isC (79, [some (vR (some (22, 0, a0))), some (vI x1), some (vI x2)], [], (I, S)) (.inl (some (vI 1)), (I, S)) :=
  s_iconst rfl rfl <|
  s_ret rfl rfl
theorem b_X12_isReducible_0 {d : Nat} {r : PO × PM} {I : Nat → Nat → Int} {S : PS} {a0 : Nat} {x1 z : Int} {I1 : Nat → Nat → Int} {S1 : PS} (c : Ca d mX12_badOnes [vR (some (22, 0, a0)), vI x1] (I, S) (.inl (some (vI z))) (I1, S1)) (k : Ev (d + 1) mX12_isReducible (5, [some (vR (some (22, 0, a0))), some (vI x1)], [vI z], (I1, S1)) r) : Ev (d + 1) mX12_isReducible (0, [some (vR (some (22, 0, a0))), some (vI x1)], [], (I, S)) r :=
  s_aload_n rfl rfl rfl <|
  s_iload_n rfl rfl rfl <|
  s_cvI rfl rfl rfl rfl rfl c k
theorem b_X12_isReducible_5 {d : Nat} {r : PO × PM} {I : Nat → Nat → Int} {S : PS} {a0 : Nat} {x1 xs0 : Int} (kt : xs0 = 0 → Ev d mX12_isReducible (16, [some (vR (some (22, 0, a0))), some (vI x1)], [], (I, S)) r) (kf : xs0 ≠ 0 → Ev d mX12_isReducible (8, [some (vR (some (22, 0, a0))), some (vI x1)], [], (I, S)) r) : Ev d mX12_isReducible (5, [some (vR (some (22, 0, a0))), some (vI x1)], [vI xs0], (I, S)) r :=
  s_if_eq 16 rfl rfl kt kf
theorem b_X12_isReducible_8 {d : Nat} {r : PO × PM} {I : Nat → Nat → Int} {S : PS} {a0 : Nat} {x1 z : Int} {I1 : Nat → Nat → Int} {S1 : PS} (c : Ca d mX12_isC [vR (some (22, 0, a0)), vI x1] (I, S) (.inl (some (vI z))) (I1, S1)) (k : Ev (d + 1) mX12_isReducible (13, [some (vR (some (22, 0, a0))), some (vI x1)], [vI z], (I1, S1)) r) : Ev (d + 1) mX12_isReducible (8, [some (vR (some (22, 0, a0))), some (vI x1)], [], (I, S)) r :=
  s_aload_n rfl rfl rfl <|
  s_iload_n rfl rfl rfl <|
  s_cvI rfl rfl rfl rfl rfl c k
theorem b_X12_isReducible_13 {d : Nat} {r : PO × PM} {I : Nat → Nat → Int} {S : PS} {a0 : Nat} {x1 xs0 : Int} (kt : xs0 = 0 → Ev d mX12_isReducible (20, [some (vR (some (22, 0, a0))), some (vI x1)], [], (I, S)) r) (kf : xs0 ≠ 0 → Ev d mX12_isReducible (16, [some (vR (some (22, 0, a0))), some (vI x1)], [], (I, S)) r) : Ev d mX12_isReducible (13, [some (vR (some (22, 0, a0))), some (vI x1)], [vI xs0], (I, S)) r :=
  s_if_eq 20 rfl rfl kt kf
theorem b_X12_isReducible_16 {d : Nat} {r : PO × PM} {I : Nat → Nat → Int} {S : PS} {a0 : Nat} {x1 : Int} (k : Ev d mX12_isReducible (21, [some (vR (some (22, 0, a0))), some (vI x1)], [vI 1], (I, S)) r) : Ev d mX12_isReducible (16, [some (vR (some (22, 0, a0))), some (vI x1)], [], (I, S)) r :=
  s_iconst rfl rfl <|
  s_goto 21 rfl rfl k
theorem b_X12_isReducible_20 {d : Nat} {r : PO × PM} {I : Nat → Nat → Int} {S : PS} {a0 : Nat} {x1 : Int} (k : Ev d mX12_isReducible (21, [some (vR (some (22, 0, a0))), some (vI x1)], [vI 0], (I, S)) r) : Ev d mX12_isReducible (20, [some (vR (some (22, 0, a0))), some (vI x1)], [], (I, S)) r :=
  s_iconst rfl rfl <|
  k
theorem b_X12_isReducible_21 {d : Nat} {I : Nat → Nat → Int} {S : PS} {a0 : Nat} {x1 xs0 : Int} (hb1 : xs0 = 0 ∨ xs0 = 1) : Ev d mX12_isReducible (21, [some (vR (some (22, 0, a0))), some (vI x1)], [vI xs0], (I, S)) (.inl (some (vI xs0)), (I, S)) :=
  s_retz rfl rfl hb1
theorem b_X12_edgesOf_0 {d : Nat} {r : PO × PM} {I : Nat → Nat → Int} {S : PS} {a0 : Nat} {x1 : Int} (k : Ev d mX12_edgesOf (4, [some (vR (some (22, 0, a0))), some (vI x1), some (vI 0), some (vI 0)], [], (I, S)) r) : Ev d mX12_edgesOf (0, [some (vR (some (22, 0, a0))), some (vI x1), none, none], [], (I, S)) r :=
  s_iconst rfl rfl <|
  s_istore_n [some (vR (some (22, 0, a0))), some (vI x1), some (vI 0), none] rfl rfl <|
  s_iconst rfl rfl <|
  s_istore_n [some (vR (some (22, 0, a0))), some (vI x1), some (vI 0), some (vI 0)] rfl rfl <|
  k
theorem b_X12_edgesOf_4 {d : Nat} {r : PO × PM} {I : Nat → Nat → Int} {S : PS} {a0 : Nat} {x1 x2 x3 z : Int} {I1 : Nat → Nat → Int} {S1 : PS} (c : Ca d mX12_vertices [vR (some (22, 0, a0)), vI x1] (I, S) (.inl (some (vI z))) (I1, S1)) (k : Ev (d + 1) mX12_edgesOf (10, [some (vR (some (22, 0, a0))), some (vI x1), some (vI x2), some (vI x3)], [vI z, vI x3], (I1, S1)) r) : Ev (d + 1) mX12_edgesOf (4, [some (vR (some (22, 0, a0))), some (vI x1), some (vI x2), some (vI x3)], [], (I, S)) r :=
  s_iload_n rfl rfl rfl <|
  s_aload_n rfl rfl rfl <|
  s_iload_n rfl rfl rfl <|
  s_cvI rfl rfl rfl rfl rfl c k
theorem b_X12_edgesOf_10 {d : Nat} {r : PO × PM} {I : Nat → Nat → Int} {S : PS} {a0 : Nat} {x1 x2 x3 xs0 xs1 : Int} (kt : xs1 ≤ xs0 → Ev d mX12_edgesOf (36, [some (vR (some (22, 0, a0))), some (vI x1), some (vI x2), some (vI x3)], [], (I, S)) r) (kf : xs0 < xs1 → Ev d mX12_edgesOf (13, [some (vR (some (22, 0, a0))), some (vI x1), some (vI x2), some (vI x3)], [], (I, S)) r) : Ev d mX12_edgesOf (10, [some (vR (some (22, 0, a0))), some (vI x1), some (vI x2), some (vI x3)], [vI xs1, vI xs0], (I, S)) r :=
  s_icmp_ge 36 rfl rfl kt kf
theorem b_X12_edgesOf_13 {d : Nat} {r : PO × PM} {I : Nat → Nat → Int} {S : PS} {a0 p1 q1 : Nat} {x1 x2 x3 z : Int} {I1 : Nat → Nat → Int} {S1 : PS} (hr1 : S.1 a0 25 = some (0, q1, p1)) (ho2 : -2147483648 ≤ 15 * x1 ∧ 15 * x1 ≤ 2147483647) (ho3 : -2147483648 ≤ (15 * x1) + x3 ∧ (15 * x1) + x3 ≤ 2147483647) (hi4 : 0 ≤ (15 * x1) + x3 ∧ (15 * x1) + x3 < (q1 : Nat)) (c : Ca d mX12_bits [vI (I p1 ((15 * x1) + x3).toNat)] (I, S) (.inl (some (vI z))) (I1, S1)) (k : Ev (d + 1) mX12_edgesOf (28, [some (vR (some (22, 0, a0))), some (vI x1), some (vI x2), some (vI x3)], [vI z, vI x2], (I1, S1)) r) : Ev (d + 1) mX12_edgesOf (13, [some (vR (some (22, 0, a0))), some (vI x1), some (vI x2), some (vI x3)], [], (I, S)) r :=
  s_iload_n rfl rfl rfl <|
  s_aload_n rfl rfl rfl <|
  s_getR rfl rfl rfl hr1 <|
  s_bipush rfl rfl <|
  s_iload_n rfl rfl rfl <|
  s_imulp rfl ho2 <|
  s_iload_n rfl rfl rfl <|
  s_iaddp rfl ho3 <|
  s_iald rfl rfl hi4 <|
  s_csI rfl rfl rfl rfl rfl rfl c k
theorem b_X12_edgesOf_28 {d : Nat} {r : PO × PM} {I : Nat → Nat → Int} {S : PS} {a0 : Nat} {x1 x2 x3 xs0 xs1 : Int} (ho1 : -2147483648 ≤ xs0 + xs1 ∧ xs0 + xs1 ≤ 2147483647) (ho2 : -2147483648 ≤ x3 + 1 ∧ x3 + 1 ≤ 2147483647) (k : Ev d mX12_edgesOf (4, [some (vR (some (22, 0, a0))), some (vI x1), some (vI (xs0 + xs1)), some (vI (x3 + 1))], [], (I, S)) r) : Ev d mX12_edgesOf (28, [some (vR (some (22, 0, a0))), some (vI x1), some (vI x2), some (vI x3)], [vI xs1, vI xs0], (I, S)) r :=
  s_iaddp rfl ho1 <|
  s_istore_n [some (vR (some (22, 0, a0))), some (vI x1), some (vI (xs0 + xs1)), some (vI x3)] rfl rfl <|
  s_iincp [some (vR (some (22, 0, a0))), some (vI x1), some (vI (xs0 + xs1)), some (vI (x3 + 1))] rfl rfl ho2 rfl <|
  s_goto 4 rfl rfl k
theorem b_X12_edgesOf_36 {d : Nat} {I : Nat → Nat → Int} {S : PS} {a0 : Nat} {x1 x2 x3 : Int} (hd1 : (0 ≤ x2 ∧ x2 ≤ 2147483647) ∧ 0 < (2 : Int) ∧ (2 : Int) ≤ 2147483647) : Ev d mX12_edgesOf (36, [some (vR (some (22, 0, a0))), some (vI x1), some (vI x2), some (vI x3)], [], (I, S)) (.inl (some (vI (x2 / 2))), (I, S)) :=
  s_iload_n rfl rfl rfl <|
  s_iconst rfl rfl <|
  s_idivp rfl hd1 <|
  s_ret rfl rfl
theorem b_X12_piece_0 {d : Nat} {r : PO × PM} {I : Nat → Nat → Int} {S : PS} {a0 : Nat} {x1 x2 z : Int} {I1 : Nat → Nat → Int} {S1 : PS} (c : Ca d mX12_isPiece [vR (some (22, 0, a0)), vI x1] ((up2 I a0 0 0), S) (.inl (some (vI z))) (I1, S1)) (k : Ev (d + 1) mX12_piece (10, [some (vR (some (22, 0, a0))), some (vI x1), some (vI x2)], [vI z], (I1, S1)) r) : Ev (d + 1) mX12_piece (0, [some (vR (some (22, 0, a0))), some (vI x1), some (vI x2)], [], (I, S)) r :=
  s_aload_n rfl rfl rfl <|
  s_iconst rfl rfl <|
  s_putI rfl rfl rfl <|
  s_aload_n rfl rfl rfl <|
  s_iload_n rfl rfl rfl <|
  s_cvI rfl rfl rfl rfl rfl c k
theorem b_X12_piece_10 {d : Nat} {r : PO × PM} {I : Nat → Nat → Int} {S : PS} {a0 : Nat} {x1 x2 xs0 : Int} (kt : xs0 = 0 → Ev d mX12_piece (23, [some (vR (some (22, 0, a0))), some (vI x1), some (vI x2)], [], (I, S)) r) (kf : xs0 ≠ 0 → Ev d mX12_piece (13, [some (vR (some (22, 0, a0))), some (vI x1), some (vI x2)], [], (I, S)) r) : Ev d mX12_piece (10, [some (vR (some (22, 0, a0))), some (vI x1), some (vI x2)], [vI xs0], (I, S)) r :=
  s_if_eq 23 rfl rfl kt kf
theorem b_X12_piece_13 {d : Nat} {r : PO × PM} {I : Nat → Nat → Int} {S : PS} {a0 : Nat} {x1 x2 z : Int} {I1 : Nat → Nat → Int} {S1 : PS} (c : Ca d mX12_isWhat [vR (some (22, 0, a0)), vI x2, vI 12] (I, S) (.inl (some (vI z))) (I1, S1)) (k : Ev (d + 1) mX12_piece (20, [some (vR (some (22, 0, a0))), some (vI x1), some (vI x2)], [vI z], (I1, S1)) r) : Ev (d + 1) mX12_piece (13, [some (vR (some (22, 0, a0))), some (vI x1), some (vI x2)], [], (I, S)) r :=
  s_aload_n rfl rfl rfl <|
  s_iload_n rfl rfl rfl <|
  s_bipush rfl rfl <|
  s_cvI rfl rfl rfl rfl rfl c k
theorem b_X12_piece_20 {d : Nat} {r : PO × PM} {I : Nat → Nat → Int} {S : PS} {a0 : Nat} {x1 x2 xs0 : Int} (kt : xs0 ≠ 0 → Ev d mX12_piece (25, [some (vR (some (22, 0, a0))), some (vI x1), some (vI x2)], [], (I, S)) r) (kf : xs0 = 0 → Ev d mX12_piece (23, [some (vR (some (22, 0, a0))), some (vI x1), some (vI x2)], [], (I, S)) r) : Ev d mX12_piece (20, [some (vR (some (22, 0, a0))), some (vI x1), some (vI x2)], [vI xs0], (I, S)) r :=
  s_if_ne 25 rfl rfl kt kf
theorem b_X12_piece_23 {d : Nat} {I : Nat → Nat → Int} {S : PS} {a0 : Nat} {x1 x2 : Int} : Ev d mX12_piece (23, [some (vR (some (22, 0, a0))), some (vI x1), some (vI x2)], [], (I, S)) (.inl (some (vI 0)), (I, S)) :=
  s_iconst rfl rfl <|
  s_ret rfl rfl
theorem b_X12_piece_25 {d : Nat} {r : PO × PM} {I : Nat → Nat → Int} {S : PS} {a0 : Nat} {x1 x2 : Int} (k0 : x2 = 0 → Ev d mX12_piece (88, [some (vR (some (22, 0, a0))), some (vI x1), some (vI x2)], [], (I, S)) r) (k1 : x2 = 1 → Ev d mX12_piece (98, [some (vR (some (22, 0, a0))), some (vI x1), some (vI x2)], [], (I, S)) r) (k2 : x2 = 2 → Ev d mX12_piece (110, [some (vR (some (22, 0, a0))), some (vI x1), some (vI x2)], [], (I, S)) r) (k3 : x2 = 3 → Ev d mX12_piece (116, [some (vR (some (22, 0, a0))), some (vI x1), some (vI x2)], [], (I, S)) r) (k4 : x2 = 4 → Ev d mX12_piece (122, [some (vR (some (22, 0, a0))), some (vI x1), some (vI x2)], [], (I, S)) r) (k5 : x2 = 5 → Ev d mX12_piece (128, [some (vR (some (22, 0, a0))), some (vI x1), some (vI x2)], [], (I, S)) r) (k6 : x2 = 6 → Ev d mX12_piece (135, [some (vR (some (22, 0, a0))), some (vI x1), some (vI x2)], [], (I, S)) r) (k7 : x2 = 7 → Ev d mX12_piece (145, [some (vR (some (22, 0, a0))), some (vI x1), some (vI x2)], [], (I, S)) r) (k8 : x2 = 8 → Ev d mX12_piece (151, [some (vR (some (22, 0, a0))), some (vI x1), some (vI x2)], [], (I, S)) r) (k9 : x2 = 9 → Ev d mX12_piece (157, [some (vR (some (22, 0, a0))), some (vI x1), some (vI x2)], [], (I, S)) r) (k10 : x2 = 10 → Ev d mX12_piece (171, [some (vR (some (22, 0, a0))), some (vI x1), some (vI x2)], [], (I, S)) r) (k11 : x2 = 11 → Ev d mX12_piece (184, [some (vR (some (22, 0, a0))), some (vI x1), some (vI x2)], [], (I, S)) r) (kd : ¬(0 ≤ x2 ∧ x2 ≤ 11) → Ev d mX12_piece (194, [some (vR (some (22, 0, a0))), some (vI x1), some (vI x2)], [], (I, S)) r) : Ev d mX12_piece (25, [some (vR (some (22, 0, a0))), some (vI x1), some (vI x2)], [], (I, S)) r :=
  s_iload_n rfl rfl rfl <|
  s_sw 194 rfl (by decide) (fun c => kd c) (fun j hj => by
  match j, hj with
  | 0, _ => exact fun c => k0 c
  | 1, _ => exact fun c => k1 c
  | 2, _ => exact fun c => k2 c
  | 3, _ => exact fun c => k3 c
  | 4, _ => exact fun c => k4 c
  | 5, _ => exact fun c => k5 c
  | 6, _ => exact fun c => k6 c
  | 7, _ => exact fun c => k7 c
  | 8, _ => exact fun c => k8 c
  | 9, _ => exact fun c => k9 c
  | 10, _ => exact fun c => k10 c
  | 11, _ => exact fun c => k11 c
  | j + 12, hj => exact absurd hj (by simp))
theorem b_X12_piece_88 {d : Nat} {I : Nat → Nat → Int} {S : PS} {a0 p1 q1 : Nat} {x1 x2 : Int} (hr1 : S.1 a0 19 = some (0, q1, p1)) (ho2 : -2147483648 ≤ 20 * x1 ∧ 20 * x1 ≤ 2147483647) (hi3 : 0 ≤ 20 * x1 ∧ 20 * x1 < (q1 : Nat)) : Ev d mX12_piece (88, [some (vR (some (22, 0, a0))), some (vI x1), some (vI x2)], [], (I, S)) (.inl (some (vI (I p1 (20 * x1).toNat))), (I, S)) :=
  s_aload_n rfl rfl rfl <|
  s_getR rfl rfl rfl hr1 <|
  s_bipush rfl rfl <|
  s_iload_n rfl rfl rfl <|
  s_imulp rfl ho2 <|
  s_iald rfl rfl hi3 <|
  s_ret rfl rfl
theorem b_X12_piece_98 {d : Nat} {I : Nat → Nat → Int} {S : PS} {a0 p1 q1 : Nat} {x1 x2 : Int} (hr1 : S.1 a0 19 = some (0, q1, p1)) (ho2 : -2147483648 ≤ 20 * x1 ∧ 20 * x1 ≤ 2147483647) (ho3 : -2147483648 ≤ (20 * x1) + 1 ∧ (20 * x1) + 1 ≤ 2147483647) (hi4 : 0 ≤ (20 * x1) + 1 ∧ (20 * x1) + 1 < (q1 : Nat)) : Ev d mX12_piece (98, [some (vR (some (22, 0, a0))), some (vI x1), some (vI x2)], [], (I, S)) (.inl (some (vI (I p1 ((20 * x1) + 1).toNat))), (I, S)) :=
  s_aload_n rfl rfl rfl <|
  s_getR rfl rfl rfl hr1 <|
  s_bipush rfl rfl <|
  s_iload_n rfl rfl rfl <|
  s_imulp rfl ho2 <|
  s_iconst rfl rfl <|
  s_iaddp rfl ho3 <|
  s_iald rfl rfl hi4 <|
  s_ret rfl rfl
theorem b_X12_piece_110 {d : Nat} {r : PO × PM} {I : Nat → Nat → Int} {S : PS} {a0 : Nat} {x1 x2 z : Int} {I1 : Nat → Nat → Int} {S1 : PS} (c : Ca d mX12_ring [vR (some (22, 0, a0)), vI x1] (I, S) (.inl (some (vI z))) (I1, S1)) (k : Ev (d + 1) mX12_piece (115, [some (vR (some (22, 0, a0))), some (vI x1), some (vI x2)], [vI z], (I1, S1)) r) : Ev (d + 1) mX12_piece (110, [some (vR (some (22, 0, a0))), some (vI x1), some (vI x2)], [], (I, S)) r :=
  s_aload_n rfl rfl rfl <|
  s_iload_n rfl rfl rfl <|
  s_cvI rfl rfl rfl rfl rfl c k
theorem b_X12_piece_115 {d : Nat} {I : Nat → Nat → Int} {S : PS} {a0 : Nat} {x1 x2 xs0 : Int} : Ev d mX12_piece (115, [some (vR (some (22, 0, a0))), some (vI x1), some (vI x2)], [vI xs0], (I, S)) (.inl (some (vI xs0)), (I, S)) :=
  s_ret rfl rfl
theorem b_X12_piece_116 {d : Nat} {r : PO × PM} {I : Nat → Nat → Int} {S : PS} {a0 : Nat} {x1 x2 z : Int} {I1 : Nat → Nat → Int} {S1 : PS} (c : Ca d mX12_vertices [vR (some (22, 0, a0)), vI x1] (I, S) (.inl (some (vI z))) (I1, S1)) (k : Ev (d + 1) mX12_piece (121, [some (vR (some (22, 0, a0))), some (vI x1), some (vI x2)], [vI z], (I1, S1)) r) : Ev (d + 1) mX12_piece (116, [some (vR (some (22, 0, a0))), some (vI x1), some (vI x2)], [], (I, S)) r :=
  s_aload_n rfl rfl rfl <|
  s_iload_n rfl rfl rfl <|
  s_cvI rfl rfl rfl rfl rfl c k
theorem b_X12_piece_121 {d : Nat} {I : Nat → Nat → Int} {S : PS} {a0 : Nat} {x1 x2 xs0 : Int} : Ev d mX12_piece (121, [some (vR (some (22, 0, a0))), some (vI x1), some (vI x2)], [vI xs0], (I, S)) (.inl (some (vI xs0)), (I, S)) :=
  s_ret rfl rfl
theorem b_X12_piece_122 {d : Nat} {r : PO × PM} {I : Nat → Nat → Int} {S : PS} {a0 : Nat} {x1 x2 z : Int} {I1 : Nat → Nat → Int} {S1 : PS} (c : Ca d mX12_edgesOf [vR (some (22, 0, a0)), vI x1] (I, S) (.inl (some (vI z))) (I1, S1)) (k : Ev (d + 1) mX12_piece (127, [some (vR (some (22, 0, a0))), some (vI x1), some (vI x2)], [vI z], (I1, S1)) r) : Ev (d + 1) mX12_piece (122, [some (vR (some (22, 0, a0))), some (vI x1), some (vI x2)], [], (I, S)) r :=
  s_aload_n rfl rfl rfl <|
  s_iload_n rfl rfl rfl <|
  s_cvI rfl rfl rfl rfl rfl c k
theorem b_X12_piece_127 {d : Nat} {I : Nat → Nat → Int} {S : PS} {a0 : Nat} {x1 x2 xs0 : Int} : Ev d mX12_piece (127, [some (vR (some (22, 0, a0))), some (vI x1), some (vI x2)], [vI xs0], (I, S)) (.inl (some (vI xs0)), (I, S)) :=
  s_ret rfl rfl
theorem b_X12_piece_128 {d : Nat} {I : Nat → Nat → Int} {S : PS} {a0 p1 q1 : Nat} {x1 x2 : Int} (hr1 : S.1 a0 27 = some (0, q1, p1)) (hi2 : 0 ≤ x1 ∧ x1 < (q1 : Nat)) : Ev d mX12_piece (128, [some (vR (some (22, 0, a0))), some (vI x1), some (vI x2)], [], (I, S)) (.inl (some (vI (I p1 x1.toNat))), (I, S)) :=
  s_aload_n rfl rfl rfl <|
  s_getR rfl rfl rfl hr1 <|
  s_iload_n rfl rfl rfl <|
  s_iald rfl rfl hi2 <|
  s_ret rfl rfl
theorem b_X12_piece_135 {d : Nat} {r : PO × PM} {I : Nat → Nat → Int} {S : PS} {a0 p1 q1 : Nat} {x1 x2 z : Int} {I1 : Nat → Nat → Int} {S1 : PS} (hr1 : S.1 a0 29 = some (0, q1, p1)) (c : Ca d mX12_sumOf [vR (some (22, 0, a0)), vR (some (0, q1, p1)), vI x1] (I, S) (.inl (some (vI z))) (I1, S1)) (k : Ev (d + 1) mX12_piece (144, [some (vR (some (22, 0, a0))), some (vI x1), some (vI x2)], [vI z], (I1, S1)) r) : Ev (d + 1) mX12_piece (135, [some (vR (some (22, 0, a0))), some (vI x1), some (vI x2)], [], (I, S)) r :=
  s_aload_n rfl rfl rfl <|
  s_aload_n rfl rfl rfl <|
  s_getR rfl rfl rfl hr1 <|
  s_iload_n rfl rfl rfl <|
  s_cvI rfl rfl rfl rfl rfl c k
theorem b_X12_piece_144 {d : Nat} {I : Nat → Nat → Int} {S : PS} {a0 : Nat} {x1 x2 xs0 : Int} : Ev d mX12_piece (144, [some (vR (some (22, 0, a0))), some (vI x1), some (vI x2)], [vI xs0], (I, S)) (.inl (some (vI xs0)), (I, S)) :=
  s_ret rfl rfl
theorem b_X12_piece_145 {d : Nat} {r : PO × PM} {I : Nat → Nat → Int} {S : PS} {a0 : Nat} {x1 x2 z : Int} {I1 : Nat → Nat → Int} {S1 : PS} (c : Ca d mX12_badOnes [vR (some (22, 0, a0)), vI x1] (I, S) (.inl (some (vI z))) (I1, S1)) (k : Ev (d + 1) mX12_piece (150, [some (vR (some (22, 0, a0))), some (vI x1), some (vI x2)], [vI z], (I1, S1)) r) : Ev (d + 1) mX12_piece (145, [some (vR (some (22, 0, a0))), some (vI x1), some (vI x2)], [], (I, S)) r :=
  s_aload_n rfl rfl rfl <|
  s_iload_n rfl rfl rfl <|
  s_cvI rfl rfl rfl rfl rfl c k
theorem b_X12_piece_150 {d : Nat} {I : Nat → Nat → Int} {S : PS} {a0 : Nat} {x1 x2 xs0 : Int} : Ev d mX12_piece (150, [some (vR (some (22, 0, a0))), some (vI x1), some (vI x2)], [vI xs0], (I, S)) (.inl (some (vI xs0)), (I, S)) :=
  s_ret rfl rfl
theorem b_X12_piece_151 {d : Nat} {r : PO × PM} {I : Nat → Nat → Int} {S : PS} {a0 : Nat} {x1 x2 z : Int} {I1 : Nat → Nat → Int} {S1 : PS} (c : Ca d mX12_rounds [vR (some (22, 0, a0)), vI x1] (I, S) (.inl (some (vI z))) (I1, S1)) (k : Ev (d + 1) mX12_piece (156, [some (vR (some (22, 0, a0))), some (vI x1), some (vI x2)], [vI z], (I1, S1)) r) : Ev (d + 1) mX12_piece (151, [some (vR (some (22, 0, a0))), some (vI x1), some (vI x2)], [], (I, S)) r :=
  s_aload_n rfl rfl rfl <|
  s_iload_n rfl rfl rfl <|
  s_cvI rfl rfl rfl rfl rfl c k
theorem b_X12_piece_156 {d : Nat} {I : Nat → Nat → Int} {S : PS} {a0 : Nat} {x1 x2 xs0 : Int} : Ev d mX12_piece (156, [some (vR (some (22, 0, a0))), some (vI x1), some (vI x2)], [vI xs0], (I, S)) (.inl (some (vI xs0)), (I, S)) :=
  s_ret rfl rfl
theorem b_X12_piece_157 {d : Nat} {r : PO × PM} {I : Nat → Nat → Int} {S : PS} {a0 : Nat} {x1 x2 z : Int} {I1 : Nat → Nat → Int} {S1 : PS} (c : Ca d mX12_badOnes [vR (some (22, 0, a0)), vI x1] (I, S) (.inl (some (vI z))) (I1, S1)) (k : Ev (d + 1) mX12_piece (162, [some (vR (some (22, 0, a0))), some (vI x1), some (vI x2)], [vI z], (I1, S1)) r) : Ev (d + 1) mX12_piece (157, [some (vR (some (22, 0, a0))), some (vI x1), some (vI x2)], [], (I, S)) r :=
  s_aload_n rfl rfl rfl <|
  s_iload_n rfl rfl rfl <|
  s_cvI rfl rfl rfl rfl rfl c k
theorem b_X12_piece_162 {d : Nat} {r : PO × PM} {I : Nat → Nat → Int} {S : PS} {a0 : Nat} {x1 x2 xs0 : Int} (kt : xs0 ≠ 0 → Ev d mX12_piece (169, [some (vR (some (22, 0, a0))), some (vI x1), some (vI x2)], [], (I, S)) r) (kf : xs0 = 0 → Ev d mX12_piece (165, [some (vR (some (22, 0, a0))), some (vI x1), some (vI x2)], [], (I, S)) r) : Ev d mX12_piece (162, [some (vR (some (22, 0, a0))), some (vI x1), some (vI x2)], [vI xs0], (I, S)) r :=
  s_if_ne 169 rfl rfl kt kf
theorem b_X12_piece_165 {d : Nat} {r : PO × PM} {I : Nat → Nat → Int} {S : PS} {a0 : Nat} {x1 x2 : Int} (k : Ev d mX12_piece (170, [some (vR (some (22, 0, a0))), some (vI x1), some (vI x2)], [vI 1], (I, S)) r) : Ev d mX12_piece (165, [some (vR (some (22, 0, a0))), some (vI x1), some (vI x2)], [], (I, S)) r :=
  s_iconst rfl rfl <|
  s_goto 170 rfl rfl k
theorem b_X12_piece_169 {d : Nat} {r : PO × PM} {I : Nat → Nat → Int} {S : PS} {a0 : Nat} {x1 x2 : Int} (k : Ev d mX12_piece (170, [some (vR (some (22, 0, a0))), some (vI x1), some (vI x2)], [vI 0], (I, S)) r) : Ev d mX12_piece (169, [some (vR (some (22, 0, a0))), some (vI x1), some (vI x2)], [], (I, S)) r :=
  s_iconst rfl rfl <|
  k
theorem b_X12_piece_170 {d : Nat} {I : Nat → Nat → Int} {S : PS} {a0 : Nat} {x1 x2 xs0 : Int} : Ev d mX12_piece (170, [some (vR (some (22, 0, a0))), some (vI x1), some (vI x2)], [vI xs0], (I, S)) (.inl (some (vI xs0)), (I, S)) :=
  s_ret rfl rfl
theorem b_X12_piece_171 {d : Nat} {I : Nat → Nat → Int} {S : PS} {a0 p1 q1 : Nat} {x1 x2 : Int} (hr1 : S.1 a0 19 = some (0, q1, p1)) (ho2 : -2147483648 ≤ 20 * x1 ∧ 20 * x1 ≤ 2147483647) (ho3 : -2147483648 ≤ (20 * x1) + 10 ∧ (20 * x1) + 10 ≤ 2147483647) (hi4 : 0 ≤ (20 * x1) + 10 ∧ (20 * x1) + 10 < (q1 : Nat)) : Ev d mX12_piece (171, [some (vR (some (22, 0, a0))), some (vI x1), some (vI x2)], [], (I, S)) (.inl (some (vI (I p1 ((20 * x1) + 10).toNat))), (I, S)) :=
  s_aload_n rfl rfl rfl <|
  s_getR rfl rfl rfl hr1 <|
  s_bipush rfl rfl <|
  s_iload_n rfl rfl rfl <|
  s_imulp rfl ho2 <|
  s_bipush rfl rfl <|
  s_iaddp rfl ho3 <|
  s_iald rfl rfl hi4 <|
  s_ret rfl rfl
theorem b_X12_piece_184 {d : Nat} {r : PO × PM} {I : Nat → Nat → Int} {S : PS} {a0 p1 q1 : Nat} {x1 x2 z : Int} {I1 : Nat → Nat → Int} {S1 : PS} (hr1 : S.1 a0 30 = some (0, q1, p1)) (c : Ca d mX12_sumOf [vR (some (22, 0, a0)), vR (some (0, q1, p1)), vI x1] (I, S) (.inl (some (vI z))) (I1, S1)) (k : Ev (d + 1) mX12_piece (193, [some (vR (some (22, 0, a0))), some (vI x1), some (vI x2)], [vI z], (I1, S1)) r) : Ev (d + 1) mX12_piece (184, [some (vR (some (22, 0, a0))), some (vI x1), some (vI x2)], [], (I, S)) r :=
  s_aload_n rfl rfl rfl <|
  s_aload_n rfl rfl rfl <|
  s_getR rfl rfl rfl hr1 <|
  s_iload_n rfl rfl rfl <|
  s_cvI rfl rfl rfl rfl rfl c k
theorem b_X12_piece_193 {d : Nat} {I : Nat → Nat → Int} {S : PS} {a0 : Nat} {x1 x2 xs0 : Int} : Ev d mX12_piece (193, [some (vR (some (22, 0, a0))), some (vI x1), some (vI x2)], [vI xs0], (I, S)) (.inl (some (vI xs0)), (I, S)) :=
  s_ret rfl rfl
theorem b_X12_piece_194 {d : Nat} {r : PO × PM} {I : Nat → Nat → Int} {S : PS} {a0 : Nat} {x1 x2 z : Int} {I1 : Nat → Nat → Int} {S1 : PS} (c : Ca d mX12_isC [vR (some (22, 0, a0)), vI x1] (I, S) (.inl (some (vI z))) (I1, S1)) (k : Ev (d + 1) mX12_piece (199, [some (vR (some (22, 0, a0))), some (vI x1), some (vI x2)], [vI z], (I1, S1)) r) : Ev (d + 1) mX12_piece (194, [some (vR (some (22, 0, a0))), some (vI x1), some (vI x2)], [], (I, S)) r :=
  s_aload_n rfl rfl rfl <|
  s_iload_n rfl rfl rfl <|
  s_cvI rfl rfl rfl rfl rfl c k
theorem b_X12_piece_199 {d : Nat} {r : PO × PM} {I : Nat → Nat → Int} {S : PS} {a0 : Nat} {x1 x2 xs0 : Int} (kt : xs0 = 0 → Ev d mX12_piece (206, [some (vR (some (22, 0, a0))), some (vI x1), some (vI x2)], [], (I, S)) r) (kf : xs0 ≠ 0 → Ev d mX12_piece (202, [some (vR (some (22, 0, a0))), some (vI x1), some (vI x2)], [], (I, S)) r) : Ev d mX12_piece (199, [some (vR (some (22, 0, a0))), some (vI x1), some (vI x2)], [vI xs0], (I, S)) r :=
  s_if_eq 206 rfl rfl kt kf
theorem b_X12_piece_202 {d : Nat} {r : PO × PM} {I : Nat → Nat → Int} {S : PS} {a0 : Nat} {x1 x2 : Int} (k : Ev d mX12_piece (207, [some (vR (some (22, 0, a0))), some (vI x1), some (vI x2)], [vI 1], (I, S)) r) : Ev d mX12_piece (202, [some (vR (some (22, 0, a0))), some (vI x1), some (vI x2)], [], (I, S)) r :=
  s_iconst rfl rfl <|
  s_goto 207 rfl rfl k
theorem b_X12_piece_206 {d : Nat} {r : PO × PM} {I : Nat → Nat → Int} {S : PS} {a0 : Nat} {x1 x2 : Int} (k : Ev d mX12_piece (207, [some (vR (some (22, 0, a0))), some (vI x1), some (vI x2)], [vI 0], (I, S)) r) : Ev d mX12_piece (206, [some (vR (some (22, 0, a0))), some (vI x1), some (vI x2)], [], (I, S)) r :=
  s_iconst rfl rfl <|
  k
theorem b_X12_piece_207 {d : Nat} {I : Nat → Nat → Int} {S : PS} {a0 : Nat} {x1 x2 xs0 : Int} : Ev d mX12_piece (207, [some (vR (some (22, 0, a0))), some (vI x1), some (vI x2)], [vI xs0], (I, S)) (.inl (some (vI xs0)), (I, S)) :=
  s_ret rfl rfl
theorem b_X12_vertex_0 {d : Nat} {r : PO × PM} {I : Nat → Nat → Int} {S : PS} {a0 : Nat} {x1 x2 z : Int} {I1 : Nat → Nat → Int} {S1 : PS} (c : Ca d mX12_isPiece [vR (some (22, 0, a0)), vI x1] ((up2 I a0 0 0), S) (.inl (some (vI z))) (I1, S1)) (k : Ev (d + 1) mX12_vertex (10, [some (vR (some (22, 0, a0))), some (vI x1), some (vI x2)], [vI z], (I1, S1)) r) : Ev (d + 1) mX12_vertex (0, [some (vR (some (22, 0, a0))), some (vI x1), some (vI x2)], [], (I, S)) r :=
  s_aload_n rfl rfl rfl <|
  s_iconst rfl rfl <|
  s_putI rfl rfl rfl <|
  s_aload_n rfl rfl rfl <|
  s_iload_n rfl rfl rfl <|
  s_cvI rfl rfl rfl rfl rfl c k
theorem b_X12_vertex_10 {d : Nat} {r : PO × PM} {I : Nat → Nat → Int} {S : PS} {a0 : Nat} {x1 x2 xs0 : Int} (kt : xs0 = 0 → Ev d mX12_vertex (39, [some (vR (some (22, 0, a0))), some (vI x1), some (vI x2)], [], (I, S)) r) (kf : xs0 ≠ 0 → Ev d mX12_vertex (13, [some (vR (some (22, 0, a0))), some (vI x1), some (vI x2)], [], (I, S)) r) : Ev d mX12_vertex (10, [some (vR (some (22, 0, a0))), some (vI x1), some (vI x2)], [vI xs0], (I, S)) r :=
  s_if_eq 39 rfl rfl kt kf
theorem b_X12_vertex_13 {d : Nat} {r : PO × PM} {I : Nat → Nat → Int} {S : PS} {a0 : Nat} {x1 x2 : Int} (kt : x2 < 0 → Ev d mX12_vertex (31, [some (vR (some (22, 0, a0))), some (vI x1), some (vI x2)], [vR (some (22, 0, a0))], (I, S)) r) (kf : 0 ≤ x2 → Ev d mX12_vertex (18, [some (vR (some (22, 0, a0))), some (vI x1), some (vI x2)], [vR (some (22, 0, a0))], (I, S)) r) : Ev d mX12_vertex (13, [some (vR (some (22, 0, a0))), some (vI x1), some (vI x2)], [], (I, S)) r :=
  s_aload_n rfl rfl rfl <|
  s_iload_n rfl rfl rfl <|
  s_if_lt 31 rfl rfl kt kf
theorem b_X12_vertex_18 {d : Nat} {r : PO × PM} {I : Nat → Nat → Int} {S : PS} {a0 as0 : Nat} {x1 x2 z : Int} {I1 : Nat → Nat → Int} {S1 : PS} (c : Ca d mX12_vertices [vR (some (22, 0, a0)), vI x1] (I, S) (.inl (some (vI z))) (I1, S1)) (k : Ev (d + 1) mX12_vertex (24, [some (vR (some (22, 0, a0))), some (vI x1), some (vI x2)], [vI z, vI x2, vR (some (22, 0, as0))], (I1, S1)) r) : Ev (d + 1) mX12_vertex (18, [some (vR (some (22, 0, a0))), some (vI x1), some (vI x2)], [vR (some (22, 0, as0))], (I, S)) r :=
  s_iload_n rfl rfl rfl <|
  s_aload_n rfl rfl rfl <|
  s_iload_n rfl rfl rfl <|
  s_cvI rfl rfl rfl rfl rfl c k
theorem b_X12_vertex_24 {d : Nat} {r : PO × PM} {I : Nat → Nat → Int} {S : PS} {a0 as0 : Nat} {x1 x2 xs1 xs2 : Int} (kt : xs2 ≤ xs1 → Ev d mX12_vertex (31, [some (vR (some (22, 0, a0))), some (vI x1), some (vI x2)], [vR (some (22, 0, as0))], (I, S)) r) (kf : xs1 < xs2 → Ev d mX12_vertex (27, [some (vR (some (22, 0, a0))), some (vI x1), some (vI x2)], [vR (some (22, 0, as0))], (I, S)) r) : Ev d mX12_vertex (24, [some (vR (some (22, 0, a0))), some (vI x1), some (vI x2)], [vI xs2, vI xs1, vR (some (22, 0, as0))], (I, S)) r :=
  s_icmp_ge 31 rfl rfl kt kf
theorem b_X12_vertex_27 {d : Nat} {r : PO × PM} {I : Nat → Nat → Int} {S : PS} {a0 as0 : Nat} {x1 x2 : Int} (k : Ev d mX12_vertex (32, [some (vR (some (22, 0, a0))), some (vI x1), some (vI x2)], [vI 1, vR (some (22, 0, as0))], (I, S)) r) : Ev d mX12_vertex (27, [some (vR (some (22, 0, a0))), some (vI x1), some (vI x2)], [vR (some (22, 0, as0))], (I, S)) r :=
  s_iconst rfl rfl <|
  s_goto 32 rfl rfl k
theorem b_X12_vertex_31 {d : Nat} {r : PO × PM} {I : Nat → Nat → Int} {S : PS} {a0 as0 : Nat} {x1 x2 : Int} (k : Ev d mX12_vertex (32, [some (vR (some (22, 0, a0))), some (vI x1), some (vI x2)], [vI 0, vR (some (22, 0, as0))], (I, S)) r) : Ev d mX12_vertex (31, [some (vR (some (22, 0, a0))), some (vI x1), some (vI x2)], [vR (some (22, 0, as0))], (I, S)) r :=
  s_iconst rfl rfl <|
  k
theorem b_X12_vertex_32 {d : Nat} {r : PO × PM} {I : Nat → Nat → Int} {S : PS} {a0 as0 : Nat} {x1 x2 xs1 z : Int} {I1 : Nat → Nat → Int} {S1 : PS} (c : Ca d mX12_right [vR (some (22, 0, as0)), vI xs1, vI 1] (I, S) (.inl (some (vI z))) (I1, S1)) (k : Ev (d + 1) mX12_vertex (36, [some (vR (some (22, 0, a0))), some (vI x1), some (vI x2)], [vI z], (I1, S1)) r) : Ev (d + 1) mX12_vertex (32, [some (vR (some (22, 0, a0))), some (vI x1), some (vI x2)], [vI xs1, vR (some (22, 0, as0))], (I, S)) r :=
  s_iconst rfl rfl <|
  s_cvI rfl rfl rfl rfl rfl c k
theorem b_X12_vertex_36 {d : Nat} {r : PO × PM} {I : Nat → Nat → Int} {S : PS} {a0 : Nat} {x1 x2 xs0 : Int} (kt : xs0 ≠ 0 → Ev d mX12_vertex (41, [some (vR (some (22, 0, a0))), some (vI x1), some (vI x2)], [], (I, S)) r) (kf : xs0 = 0 → Ev d mX12_vertex (39, [some (vR (some (22, 0, a0))), some (vI x1), some (vI x2)], [], (I, S)) r) : Ev d mX12_vertex (36, [some (vR (some (22, 0, a0))), some (vI x1), some (vI x2)], [vI xs0], (I, S)) r :=
  s_if_ne 41 rfl rfl kt kf
theorem b_X12_vertex_39 {d : Nat} {I : Nat → Nat → Int} {S : PS} {a0 : Nat} {x1 x2 : Int} : Ev d mX12_vertex (39, [some (vR (some (22, 0, a0))), some (vI x1), some (vI x2)], [], (I, S)) (.inl (some (vI 0)), (I, S)) :=
  s_iconst rfl rfl <|
  s_ret rfl rfl
theorem b_X12_vertex_41 {d : Nat} {I : Nat → Nat → Int} {S : PS} {a0 p1 q1 : Nat} {x1 x2 : Int} (hr1 : S.1 a0 25 = some (0, q1, p1)) (ho2 : -2147483648 ≤ 15 * x1 ∧ 15 * x1 ≤ 2147483647) (ho3 : -2147483648 ≤ (15 * x1) + x2 ∧ (15 * x1) + x2 ≤ 2147483647) (hi4 : 0 ≤ (15 * x1) + x2 ∧ (15 * x1) + x2 < (q1 : Nat)) : Ev d mX12_vertex (41, [some (vR (some (22, 0, a0))), some (vI x1), some (vI x2)], [], (I, S)) (.inl (some (vI (I p1 ((15 * x1) + x2).toNat))), (I, S)) :=
  s_aload_n rfl rfl rfl <|
  s_getR rfl rfl rfl hr1 <|
  s_bipush rfl rfl <|
  s_iload_n rfl rfl rfl <|
  s_imulp rfl ho2 <|
  s_iload_n rfl rfl rfl <|
  s_iaddp rfl ho3 <|
  s_iald rfl rfl hi4 <|
  s_ret rfl rfl
theorem b_X12_colour_0 {d : Nat} {r : PO × PM} {I : Nat → Nat → Int} {S : PS} {a0 : Nat} {x1 x2 x3 z : Int} {I1 : Nat → Nat → Int} {S1 : PS} (c : Ca d mX12_isColouring [vR (some (22, 0, a0)), vI x1, vI x2] ((up2 I a0 0 0), S) (.inl (some (vI z))) (I1, S1)) (k : Ev (d + 1) mX12_colour (11, [some (vR (some (22, 0, a0))), some (vI x1), some (vI x2), some (vI x3)], [vI z], (I1, S1)) r) : Ev (d + 1) mX12_colour (0, [some (vR (some (22, 0, a0))), some (vI x1), some (vI x2), some (vI x3)], [], (I, S)) r :=
  s_aload_n rfl rfl rfl <|
  s_iconst rfl rfl <|
  s_putI rfl rfl rfl <|
  s_aload_n rfl rfl rfl <|
  s_iload_n rfl rfl rfl <|
  s_iload_n rfl rfl rfl <|
  s_cvI rfl rfl rfl rfl rfl c k
theorem b_X12_colour_11 {d : Nat} {r : PO × PM} {I : Nat → Nat → Int} {S : PS} {a0 : Nat} {x1 x2 x3 xs0 : Int} (kt : xs0 = 0 → Ev d mX12_colour (40, [some (vR (some (22, 0, a0))), some (vI x1), some (vI x2), some (vI x3)], [], (I, S)) r) (kf : xs0 ≠ 0 → Ev d mX12_colour (14, [some (vR (some (22, 0, a0))), some (vI x1), some (vI x2), some (vI x3)], [], (I, S)) r) : Ev d mX12_colour (11, [some (vR (some (22, 0, a0))), some (vI x1), some (vI x2), some (vI x3)], [vI xs0], (I, S)) r :=
  s_if_eq 40 rfl rfl kt kf
theorem b_X12_colour_14 {d : Nat} {r : PO × PM} {I : Nat → Nat → Int} {S : PS} {a0 : Nat} {x1 x2 x3 : Int} (kt : x3 < 0 → Ev d mX12_colour (32, [some (vR (some (22, 0, a0))), some (vI x1), some (vI x2), some (vI x3)], [vR (some (22, 0, a0))], (I, S)) r) (kf : 0 ≤ x3 → Ev d mX12_colour (19, [some (vR (some (22, 0, a0))), some (vI x1), some (vI x2), some (vI x3)], [vR (some (22, 0, a0))], (I, S)) r) : Ev d mX12_colour (14, [some (vR (some (22, 0, a0))), some (vI x1), some (vI x2), some (vI x3)], [], (I, S)) r :=
  s_aload_n rfl rfl rfl <|
  s_iload_n rfl rfl rfl <|
  s_if_lt 32 rfl rfl kt kf
theorem b_X12_colour_19 {d : Nat} {r : PO × PM} {I : Nat → Nat → Int} {S : PS} {a0 as0 : Nat} {x1 x2 x3 z : Int} {I1 : Nat → Nat → Int} {S1 : PS} (c : Ca d mX12_ring [vR (some (22, 0, a0)), vI x1] (I, S) (.inl (some (vI z))) (I1, S1)) (k : Ev (d + 1) mX12_colour (25, [some (vR (some (22, 0, a0))), some (vI x1), some (vI x2), some (vI x3)], [vI z, vI x3, vR (some (22, 0, as0))], (I1, S1)) r) : Ev (d + 1) mX12_colour (19, [some (vR (some (22, 0, a0))), some (vI x1), some (vI x2), some (vI x3)], [vR (some (22, 0, as0))], (I, S)) r :=
  s_iload_n rfl rfl rfl <|
  s_aload_n rfl rfl rfl <|
  s_iload_n rfl rfl rfl <|
  s_cvI rfl rfl rfl rfl rfl c k
theorem b_X12_colour_25 {d : Nat} {r : PO × PM} {I : Nat → Nat → Int} {S : PS} {a0 as0 : Nat} {x1 x2 x3 xs1 xs2 : Int} (kt : xs2 ≤ xs1 → Ev d mX12_colour (32, [some (vR (some (22, 0, a0))), some (vI x1), some (vI x2), some (vI x3)], [vR (some (22, 0, as0))], (I, S)) r) (kf : xs1 < xs2 → Ev d mX12_colour (28, [some (vR (some (22, 0, a0))), some (vI x1), some (vI x2), some (vI x3)], [vR (some (22, 0, as0))], (I, S)) r) : Ev d mX12_colour (25, [some (vR (some (22, 0, a0))), some (vI x1), some (vI x2), some (vI x3)], [vI xs2, vI xs1, vR (some (22, 0, as0))], (I, S)) r :=
  s_icmp_ge 32 rfl rfl kt kf
theorem b_X12_colour_28 {d : Nat} {r : PO × PM} {I : Nat → Nat → Int} {S : PS} {a0 as0 : Nat} {x1 x2 x3 : Int} (k : Ev d mX12_colour (33, [some (vR (some (22, 0, a0))), some (vI x1), some (vI x2), some (vI x3)], [vI 1, vR (some (22, 0, as0))], (I, S)) r) : Ev d mX12_colour (28, [some (vR (some (22, 0, a0))), some (vI x1), some (vI x2), some (vI x3)], [vR (some (22, 0, as0))], (I, S)) r :=
  s_iconst rfl rfl <|
  s_goto 33 rfl rfl k
theorem b_X12_colour_32 {d : Nat} {r : PO × PM} {I : Nat → Nat → Int} {S : PS} {a0 as0 : Nat} {x1 x2 x3 : Int} (k : Ev d mX12_colour (33, [some (vR (some (22, 0, a0))), some (vI x1), some (vI x2), some (vI x3)], [vI 0, vR (some (22, 0, as0))], (I, S)) r) : Ev d mX12_colour (32, [some (vR (some (22, 0, a0))), some (vI x1), some (vI x2), some (vI x3)], [vR (some (22, 0, as0))], (I, S)) r :=
  s_iconst rfl rfl <|
  k
theorem b_X12_colour_33 {d : Nat} {r : PO × PM} {I : Nat → Nat → Int} {S : PS} {a0 as0 : Nat} {x1 x2 x3 xs1 z : Int} {I1 : Nat → Nat → Int} {S1 : PS} (c : Ca d mX12_right [vR (some (22, 0, as0)), vI xs1, vI 1] (I, S) (.inl (some (vI z))) (I1, S1)) (k : Ev (d + 1) mX12_colour (37, [some (vR (some (22, 0, a0))), some (vI x1), some (vI x2), some (vI x3)], [vI z], (I1, S1)) r) : Ev (d + 1) mX12_colour (33, [some (vR (some (22, 0, a0))), some (vI x1), some (vI x2), some (vI x3)], [vI xs1, vR (some (22, 0, as0))], (I, S)) r :=
  s_iconst rfl rfl <|
  s_cvI rfl rfl rfl rfl rfl c k
theorem b_X12_colour_37 {d : Nat} {r : PO × PM} {I : Nat → Nat → Int} {S : PS} {a0 : Nat} {x1 x2 x3 xs0 : Int} (kt : xs0 ≠ 0 → Ev d mX12_colour (42, [some (vR (some (22, 0, a0))), some (vI x1), some (vI x2), some (vI x3)], [], (I, S)) r) (kf : xs0 = 0 → Ev d mX12_colour (40, [some (vR (some (22, 0, a0))), some (vI x1), some (vI x2), some (vI x3)], [], (I, S)) r) : Ev d mX12_colour (37, [some (vR (some (22, 0, a0))), some (vI x1), some (vI x2), some (vI x3)], [vI xs0], (I, S)) r :=
  s_if_ne 42 rfl rfl kt kf
theorem b_X12_colour_40 {d : Nat} {I : Nat → Nat → Int} {S : PS} {a0 : Nat} {x1 x2 x3 : Int} : Ev d mX12_colour (40, [some (vR (some (22, 0, a0))), some (vI x1), some (vI x2), some (vI x3)], [], (I, S)) (.inl (some (vI 0)), (I, S)) :=
  s_iconst rfl rfl <|
  s_ret rfl rfl
theorem b_X12_colour_42 {d : Nat} {r : PO × PM} {I : Nat → Nat → Int} {S : PS} {a0 p1 q1 : Nat} {x1 x2 x3 z : Int} {I1 : Nat → Nat → Int} {S1 : PS} (hr1 : S.1 a0 28 = some (0, q1, p1)) (ho2 : -2147483648 ≤ 96 * x1 ∧ 96 * x1 ≤ 2147483647) (ho3 : -2147483648 ≤ (96 * x1) + x2 ∧ (96 * x1) + x2 ≤ 2147483647) (hi4 : 0 ≤ (96 * x1) + x2 ∧ (96 * x1) + x2 < (q1 : Nat)) (c : Ca d mX12_colourAt [vR (some (22, 0, a0)), vI x1, vI (I p1 ((96 * x1) + x2).toNat), vI x3] (I, S) (.inl (some (vI z))) (I1, S1)) (k : Ev (d + 1) mX12_colour (59, [some (vR (some (22, 0, a0))), some (vI x1), some (vI x2), some (vI x3)], [vI z], (I1, S1)) r) : Ev (d + 1) mX12_colour (42, [some (vR (some (22, 0, a0))), some (vI x1), some (vI x2), some (vI x3)], [], (I, S)) r :=
  s_aload_n rfl rfl rfl <|
  s_iload_n rfl rfl rfl <|
  s_aload_n rfl rfl rfl <|
  s_getR rfl rfl rfl hr1 <|
  s_bipush rfl rfl <|
  s_iload_n rfl rfl rfl <|
  s_imulp rfl ho2 <|
  s_iload_n rfl rfl rfl <|
  s_iaddp rfl ho3 <|
  s_iald rfl rfl hi4 <|
  s_iload_n rfl rfl rfl <|
  s_cvI rfl rfl rfl rfl rfl c k
theorem b_X12_colour_59 {d : Nat} {I : Nat → Nat → Int} {S : PS} {a0 : Nat} {x1 x2 x3 xs0 : Int} : Ev d mX12_colour (59, [some (vR (some (22, 0, a0))), some (vI x1), some (vI x2), some (vI x3)], [vI xs0], (I, S)) (.inl (some (vI xs0)), (I, S)) :=
  s_ret rfl rfl
theorem b_X12_named_0 {d : Nat} {r : PO × PM} {I : Nat → Nat → Int} {S : PS} {a0 : Nat} {x1 x2 z : Int} {I1 : Nat → Nat → Int} {S1 : PS} (c : Ca d mX12_isPiece [vR (some (22, 0, a0)), vI x1] ((up2 I a0 0 0), S) (.inl (some (vI z))) (I1, S1)) (k : Ev (d + 1) mX12_named (10, [some (vR (some (22, 0, a0))), some (vI x1), some (vI x2), none, none, none], [vI z], (I1, S1)) r) : Ev (d + 1) mX12_named (0, [some (vR (some (22, 0, a0))), some (vI x1), some (vI x2), none, none, none], [], (I, S)) r :=
  s_aload_n rfl rfl rfl <|
  s_iconst rfl rfl <|
  s_putI rfl rfl rfl <|
  s_aload_n rfl rfl rfl <|
  s_iload_n rfl rfl rfl <|
  s_cvI rfl rfl rfl rfl rfl c k
theorem b_X12_named_10 {d : Nat} {r : PO × PM} {I : Nat → Nat → Int} {S : PS} {a0 : Nat} {x1 x2 xs0 : Int} (kt : xs0 ≠ 0 → Ev d mX12_named (15, [some (vR (some (22, 0, a0))), some (vI x1), some (vI x2), none, none, none], [], (I, S)) r) (kf : xs0 = 0 → Ev d mX12_named (13, [some (vR (some (22, 0, a0))), some (vI x1), some (vI x2), none, none, none], [], (I, S)) r) : Ev d mX12_named (10, [some (vR (some (22, 0, a0))), some (vI x1), some (vI x2), none, none, none], [vI xs0], (I, S)) r :=
  s_if_ne 15 rfl rfl kt kf
theorem b_X12_named_13 {d : Nat} {I : Nat → Nat → Int} {S : PS} {a0 : Nat} {x1 x2 : Int} : Ev d mX12_named (13, [some (vR (some (22, 0, a0))), some (vI x1), some (vI x2), none, none, none], [], (I, S)) (.inl (some (vI 0)), (I, S)) :=
  s_iconst rfl rfl <|
  s_ret rfl rfl
theorem b_X12_named_15 {d : Nat} {r : PO × PM} {I : Nat → Nat → Int} {S : PS} {a0 : Nat} {x1 x2 : Int} (k : Ev d mX12_named (23, [some (vR (some (22, 0, a0))), some (vI x1), some (vI x2), some (vI 0), some (vI x2), some (vI 0)], [], (I, S)) r) : Ev d mX12_named (15, [some (vR (some (22, 0, a0))), some (vI x1), some (vI x2), none, none, none], [], (I, S)) r :=
  s_iconst rfl rfl <|
  s_istore_n [some (vR (some (22, 0, a0))), some (vI x1), some (vI x2), some (vI 0), none, none] rfl rfl <|
  s_iload_n rfl rfl rfl <|
  s_istore [some (vR (some (22, 0, a0))), some (vI x1), some (vI x2), some (vI 0), some (vI x2), none] rfl rfl <|
  s_iconst rfl rfl <|
  s_istore [some (vR (some (22, 0, a0))), some (vI x1), some (vI x2), some (vI 0), some (vI x2), some (vI 0)] rfl rfl <|
  k
theorem b_X12_named_23 {d : Nat} {r : PO × PM} {I : Nat → Nat → Int} {S : PS} {a0 : Nat} {x1 x2 x3 x4 x5 z : Int} {I1 : Nat → Nat → Int} {S1 : PS} (c : Ca d mX12_ring [vR (some (22, 0, a0)), vI x1] (I, S) (.inl (some (vI z))) (I1, S1)) (k : Ev (d + 1) mX12_named (30, [some (vR (some (22, 0, a0))), some (vI x1), some (vI x2), some (vI x3), some (vI x4), some (vI x5)], [vI z, vI x5], (I1, S1)) r) : Ev (d + 1) mX12_named (23, [some (vR (some (22, 0, a0))), some (vI x1), some (vI x2), some (vI x3), some (vI x4), some (vI x5)], [], (I, S)) r :=
  s_iload rfl rfl rfl <|
  s_aload_n rfl rfl rfl <|
  s_iload_n rfl rfl rfl <|
  s_cvI rfl rfl rfl rfl rfl c k
theorem b_X12_named_30 {d : Nat} {r : PO × PM} {I : Nat → Nat → Int} {S : PS} {a0 : Nat} {x1 x2 x3 x4 x5 xs0 xs1 : Int} (kt : xs1 ≤ xs0 → Ev d mX12_named (75, [some (vR (some (22, 0, a0))), some (vI x1), some (vI x2), some (vI x3), some (vI x4), some (vI x5)], [], (I, S)) r) (kf : xs0 < xs1 → Ev d mX12_named (33, [some (vR (some (22, 0, a0))), some (vI x1), some (vI x2), some (vI x3), some (vI x4), some (vI x5)], [], (I, S)) r) : Ev d mX12_named (30, [some (vR (some (22, 0, a0))), some (vI x1), some (vI x2), some (vI x3), some (vI x4), some (vI x5)], [vI xs1, vI xs0], (I, S)) r :=
  s_icmp_ge 75 rfl rfl kt kf
theorem b_X12_named_33 {d : Nat} {r : PO × PM} {I : Nat → Nat → Int} {S : PS} {a0 : Nat} {x1 x2 x3 x4 x5 : Int} (kt : 3 < p_rem x4 10 → Ev d mX12_named (47, [some (vR (some (22, 0, a0))), some (vI x1), some (vI x2), some (vI x3), some (vI x4), some (vI x5)], [], (I, S)) r) (kf : p_rem x4 10 ≤ 3 → Ev d mX12_named (42, [some (vR (some (22, 0, a0))), some (vI x1), some (vI x2), some (vI x3), some (vI x4), some (vI x5)], [], (I, S)) r) : Ev d mX12_named (33, [some (vR (some (22, 0, a0))), some (vI x1), some (vI x2), some (vI x3), some (vI x4), some (vI x5)], [], (I, S)) r :=
  s_iload rfl rfl rfl <|
  s_bipush rfl rfl <|
  s_irem rfl (by decide) <|
  s_iconst rfl rfl <|
  s_icmp_gt 47 rfl rfl kt kf
theorem b_X12_named_42 {d : Nat} {r : PO × PM} {I : Nat → Nat → Int} {S : PS} {a0 : Nat} {x1 x2 x3 x4 x5 : Int} (kt : 0 ≤ x4 → Ev d mX12_named (49, [some (vR (some (22, 0, a0))), some (vI x1), some (vI x2), some (vI x3), some (vI x4), some (vI x5)], [], (I, S)) r) (kf : x4 < 0 → Ev d mX12_named (47, [some (vR (some (22, 0, a0))), some (vI x1), some (vI x2), some (vI x3), some (vI x4), some (vI x5)], [], (I, S)) r) : Ev d mX12_named (42, [some (vR (some (22, 0, a0))), some (vI x1), some (vI x2), some (vI x3), some (vI x4), some (vI x5)], [], (I, S)) r :=
  s_iload rfl rfl rfl <|
  s_if_ge 49 rfl rfl kt kf
theorem b_X12_named_47 {d : Nat} {I : Nat → Nat → Int} {S : PS} {a0 : Nat} {x1 x2 x3 x4 x5 : Int} : Ev d mX12_named (47, [some (vR (some (22, 0, a0))), some (vI x1), some (vI x2), some (vI x3), some (vI x4), some (vI x5)], [], (I, S)) (.inl (some (vI (-1))), (I, S)) :=
  s_iconst rfl rfl <|
  s_ret rfl rfl
theorem b_X12_named_49 {d : Nat} {r : PO × PM} {I : Nat → Nat → Int} {S : PS} {a0 : Nat} {x1 x2 x3 x4 x5 : Int} (ho1 : -2147483648 ≤ 2 * x5 ∧ 2 * x5 ≤ 2147483647) (ho2 : -2147483648 ≤ x5 + 1 ∧ x5 + 1 ≤ 2147483647) (k : Ev d mX12_named (23, [some (vR (some (22, 0, a0))), some (vI x1), some (vI x2), some (vI (p_or x3 (p_shl (p_rem x4 10) (2 * x5)))), some (vI (p_div x4 10)), some (vI (x5 + 1))], [], (I, S)) r) : Ev d mX12_named (49, [some (vR (some (22, 0, a0))), some (vI x1), some (vI x2), some (vI x3), some (vI x4), some (vI x5)], [], (I, S)) r :=
  s_iload_n rfl rfl rfl <|
  s_iload rfl rfl rfl <|
  s_bipush rfl rfl <|
  s_irem rfl (by decide) <|
  s_iconst rfl rfl <|
  s_iload rfl rfl rfl <|
  s_imulp rfl ho1 <|
  s_ishl rfl <|
  s_ior rfl <|
  s_istore_n [some (vR (some (22, 0, a0))), some (vI x1), some (vI x2), some (vI (p_or x3 (p_shl (p_rem x4 10) (2 * x5)))), some (vI x4), some (vI x5)] rfl rfl <|
  s_iload rfl rfl rfl <|
  s_bipush rfl rfl <|
  s_idiv rfl (by decide) <|
  s_istore [some (vR (some (22, 0, a0))), some (vI x1), some (vI x2), some (vI (p_or x3 (p_shl (p_rem x4 10) (2 * x5)))), some (vI (p_div x4 10)), some (vI x5)] rfl rfl <|
  s_iincp [some (vR (some (22, 0, a0))), some (vI x1), some (vI x2), some (vI (p_or x3 (p_shl (p_rem x4 10) (2 * x5)))), some (vI (p_div x4 10)), some (vI (x5 + 1))] rfl rfl ho2 rfl <|
  s_goto 23 rfl rfl k
theorem b_X12_named_75 {d : Nat} {r : PO × PM} {I : Nat → Nat → Int} {S : PS} {a0 : Nat} {x1 x2 x3 x4 x5 : Int} (kt : x4 ≠ 0 → Ev d mX12_named (89, [some (vR (some (22, 0, a0))), some (vI x1), some (vI x2), some (vI x3), some (vI x4), some (vI x5)], [], (I, S)) r) (kf : x4 = 0 → Ev d mX12_named (80, [some (vR (some (22, 0, a0))), some (vI x1), some (vI x2), some (vI x3), some (vI x4), some (vI x5)], [], (I, S)) r) : Ev d mX12_named (75, [some (vR (some (22, 0, a0))), some (vI x1), some (vI x2), some (vI x3), some (vI x4), some (vI x5)], [], (I, S)) r :=
  s_iload rfl rfl rfl <|
  s_if_ne 89 rfl rfl kt kf
theorem b_X12_named_80 {d : Nat} {r : PO × PM} {I : Nat → Nat → Int} {S : PS} {a0 : Nat} {x1 x2 x3 x4 x5 z : Int} {I1 : Nat → Nat → Int} {S1 : PS} (c : Ca d mX12_isProper [vR (some (22, 0, a0)), vI x1, vI x3] (I, S) (.inl (some (vI z))) (I1, S1)) (k : Ev (d + 1) mX12_named (86, [some (vR (some (22, 0, a0))), some (vI x1), some (vI x2), some (vI x3), some (vI x4), some (vI x5)], [vI z], (I1, S1)) r) : Ev (d + 1) mX12_named (80, [some (vR (some (22, 0, a0))), some (vI x1), some (vI x2), some (vI x3), some (vI x4), some (vI x5)], [], (I, S)) r :=
  s_aload_n rfl rfl rfl <|
  s_iload_n rfl rfl rfl <|
  s_iload_n rfl rfl rfl <|
  s_cvI rfl rfl rfl rfl rfl c k
theorem b_X12_named_86 {d : Nat} {r : PO × PM} {I : Nat → Nat → Int} {S : PS} {a0 : Nat} {x1 x2 x3 x4 x5 xs0 : Int} (kt : xs0 ≠ 0 → Ev d mX12_named (93, [some (vR (some (22, 0, a0))), some (vI x1), some (vI x2), some (vI x3), some (vI x4), some (vI x5)], [], (I, S)) r) (kf : xs0 = 0 → Ev d mX12_named (89, [some (vR (some (22, 0, a0))), some (vI x1), some (vI x2), some (vI x3), some (vI x4), some (vI x5)], [], (I, S)) r) : Ev d mX12_named (86, [some (vR (some (22, 0, a0))), some (vI x1), some (vI x2), some (vI x3), some (vI x4), some (vI x5)], [vI xs0], (I, S)) r :=
  s_if_ne 93 rfl rfl kt kf
theorem b_X12_named_89 {d : Nat} {r : PO × PM} {I : Nat → Nat → Int} {S : PS} {a0 : Nat} {x1 x2 x3 x4 x5 : Int} (k : Ev d mX12_named (104, [some (vR (some (22, 0, a0))), some (vI x1), some (vI x2), some (vI x3), some (vI x4), some (vI x5)], [vI (-1)], (I, S)) r) : Ev d mX12_named (89, [some (vR (some (22, 0, a0))), some (vI x1), some (vI x2), some (vI x3), some (vI x4), some (vI x5)], [], (I, S)) r :=
  s_iconst rfl rfl <|
  s_goto 104 rfl rfl k
theorem b_X12_named_93 {d : Nat} {r : PO × PM} {I : Nat → Nat → Int} {S : PS} {a0 : Nat} {x1 x2 x3 x4 x5 z : Int} {I1 : Nat → Nat → Int} {S1 : PS} (c : Ca d mX12_named0 [vR (some (22, 0, a0)), vI x1, vI x3] (I, S) (.inl (some (vI z))) (I1, S1)) (k : Ev (d + 1) mX12_named (101, [some (vR (some (22, 0, a0))), some (vI x1), some (vI x2), some (vI x3), some (vI x4), some (vI x5)], [vI z, vI x1, vR (some (22, 0, a0))], (I1, S1)) r) : Ev (d + 1) mX12_named (93, [some (vR (some (22, 0, a0))), some (vI x1), some (vI x2), some (vI x3), some (vI x4), some (vI x5)], [], (I, S)) r :=
  s_aload_n rfl rfl rfl <|
  s_iload_n rfl rfl rfl <|
  s_aload_n rfl rfl rfl <|
  s_iload_n rfl rfl rfl <|
  s_iload_n rfl rfl rfl <|
  s_cvI rfl rfl rfl rfl rfl c k
theorem b_X12_named_101 {d : Nat} {r : PO × PM} {I : Nat → Nat → Int} {S : PS} {a0 as0 : Nat} {x1 x2 x3 x4 x5 xs1 xs2 z : Int} {I1 : Nat → Nat → Int} {S1 : PS} (c : Ca d mX12_find [vR (some (22, 0, as0)), vI xs1, vI xs2] (I, S) (.inl (some (vI z))) (I1, S1)) (k : Ev (d + 1) mX12_named (104, [some (vR (some (22, 0, a0))), some (vI x1), some (vI x2), some (vI x3), some (vI x4), some (vI x5)], [vI z], (I1, S1)) r) : Ev (d + 1) mX12_named (101, [some (vR (some (22, 0, a0))), some (vI x1), some (vI x2), some (vI x3), some (vI x4), some (vI x5)], [vI xs2, vI xs1, vR (some (22, 0, as0))], (I, S)) r :=
  s_cvI rfl rfl rfl rfl rfl c k
theorem b_X12_named_104 {d : Nat} {I : Nat → Nat → Int} {S : PS} {a0 : Nat} {x1 x2 x3 x4 x5 xs0 : Int} : Ev d mX12_named (104, [some (vR (some (22, 0, a0))), some (vI x1), some (vI x2), some (vI x3), some (vI x4), some (vI x5)], [vI xs0], (I, S)) (.inl (some (vI xs0)), (I, S)) :=
  s_ret rfl rfl
theorem b_X12_level_0 {d : Nat} {r : PO × PM} {I : Nat → Nat → Int} {S : PS} {a0 : Nat} {x1 x2 z : Int} {I1 : Nat → Nat → Int} {S1 : PS} (c : Ca d mX12_isColouring [vR (some (22, 0, a0)), vI x1, vI x2] ((up2 I a0 0 0), S) (.inl (some (vI z))) (I1, S1)) (k : Ev (d + 1) mX12_level (11, [some (vR (some (22, 0, a0))), some (vI x1), some (vI x2)], [vI z], (I1, S1)) r) : Ev (d + 1) mX12_level (0, [some (vR (some (22, 0, a0))), some (vI x1), some (vI x2)], [], (I, S)) r :=
  s_aload_n rfl rfl rfl <|
  s_iconst rfl rfl <|
  s_putI rfl rfl rfl <|
  s_aload_n rfl rfl rfl <|
  s_iload_n rfl rfl rfl <|
  s_iload_n rfl rfl rfl <|
  s_cvI rfl rfl rfl rfl rfl c k
theorem b_X12_level_11 {d : Nat} {r : PO × PM} {I : Nat → Nat → Int} {S : PS} {a0 : Nat} {x1 x2 xs0 : Int} (kt : xs0 = 0 → Ev d mX12_level (28, [some (vR (some (22, 0, a0))), some (vI x1), some (vI x2)], [], (I, S)) r) (kf : xs0 ≠ 0 → Ev d mX12_level (14, [some (vR (some (22, 0, a0))), some (vI x1), some (vI x2)], [], (I, S)) r) : Ev d mX12_level (11, [some (vR (some (22, 0, a0))), some (vI x1), some (vI x2)], [vI xs0], (I, S)) r :=
  s_if_eq 28 rfl rfl kt kf
theorem b_X12_level_14 {d : Nat} {r : PO × PM} {I : Nat → Nat → Int} {S : PS} {a0 p1 q1 : Nat} {x1 x2 : Int} (hr1 : S.1 a0 31 = some (0, q1, p1)) (ho2 : -2147483648 ≤ 96 * x1 ∧ 96 * x1 ≤ 2147483647) (ho3 : -2147483648 ≤ (96 * x1) + x2 ∧ (96 * x1) + x2 ≤ 2147483647) (hi4 : 0 ≤ (96 * x1) + x2 ∧ (96 * x1) + x2 < (q1 : Nat)) (k : Ev d mX12_level (29, [some (vR (some (22, 0, a0))), some (vI x1), some (vI x2)], [vI (I p1 ((96 * x1) + x2).toNat)], (I, S)) r) : Ev d mX12_level (14, [some (vR (some (22, 0, a0))), some (vI x1), some (vI x2)], [], (I, S)) r :=
  s_aload_n rfl rfl rfl <|
  s_getR rfl rfl rfl hr1 <|
  s_bipush rfl rfl <|
  s_iload_n rfl rfl rfl <|
  s_imulp rfl ho2 <|
  s_iload_n rfl rfl rfl <|
  s_iaddp rfl ho3 <|
  s_iald rfl rfl hi4 <|
  s_goto 29 rfl rfl k
theorem b_X12_level_28 {d : Nat} {r : PO × PM} {I : Nat → Nat → Int} {S : PS} {a0 : Nat} {x1 x2 : Int} (k : Ev d mX12_level (29, [some (vR (some (22, 0, a0))), some (vI x1), some (vI x2)], [vI 0], (I, S)) r) : Ev d mX12_level (28, [some (vR (some (22, 0, a0))), some (vI x1), some (vI x2)], [], (I, S)) r :=
  s_iconst rfl rfl <|
  k
theorem b_X12_level_29 {d : Nat} {I : Nat → Nat → Int} {S : PS} {a0 : Nat} {x1 x2 xs0 : Int} : Ev d mX12_level (29, [some (vR (some (22, 0, a0))), some (vI x1), some (vI x2)], [vI xs0], (I, S)) (.inl (some (vI xs0)), (I, S)) :=
  s_ret rfl rfl
theorem b_X12_extend_0 {d : Nat} {r : PO × PM} {I : Nat → Nat → Int} {S : PS} {a0 : Nat} {x1 x2 x3 z : Int} {I1 : Nat → Nat → Int} {S1 : PS} (c : Ca d mX12_isColouring [vR (some (22, 0, a0)), vI x1, vI x2] ((up2 I a0 0 0), S) (.inl (some (vI z))) (I1, S1)) (k : Ev (d + 1) mX12_extend (11, [some (vR (some (22, 0, a0))), some (vI x1), some (vI x2), some (vI x3)], [vI z], (I1, S1)) r) : Ev (d + 1) mX12_extend (0, [some (vR (some (22, 0, a0))), some (vI x1), some (vI x2), some (vI x3)], [], (I, S)) r :=
  s_aload_n rfl rfl rfl <|
  s_iconst rfl rfl <|
  s_putI rfl rfl rfl <|
  s_aload_n rfl rfl rfl <|
  s_iload_n rfl rfl rfl <|
  s_iload_n rfl rfl rfl <|
  s_cvI rfl rfl rfl rfl rfl c k
theorem b_X12_extend_11 {d : Nat} {r : PO × PM} {I : Nat → Nat → Int} {S : PS} {a0 : Nat} {x1 x2 x3 xs0 : Int} (kt : xs0 = 0 → Ev d mX12_extend (46, [some (vR (some (22, 0, a0))), some (vI x1), some (vI x2), some (vI x3)], [], (I, S)) r) (kf : xs0 ≠ 0 → Ev d mX12_extend (14, [some (vR (some (22, 0, a0))), some (vI x1), some (vI x2), some (vI x3)], [], (I, S)) r) : Ev d mX12_extend (11, [some (vR (some (22, 0, a0))), some (vI x1), some (vI x2), some (vI x3)], [vI xs0], (I, S)) r :=
  s_if_eq 46 rfl rfl kt kf
theorem b_X12_extend_14 {d : Nat} {r : PO × PM} {I : Nat → Nat → Int} {S : PS} {a0 : Nat} {x1 x2 x3 : Int} (kt : x3 < 0 → Ev d mX12_extend (38, [some (vR (some (22, 0, a0))), some (vI x1), some (vI x2), some (vI x3)], [vR (some (22, 0, a0))], (I, S)) r) (kf : 0 ≤ x3 → Ev d mX12_extend (19, [some (vR (some (22, 0, a0))), some (vI x1), some (vI x2), some (vI x3)], [vR (some (22, 0, a0))], (I, S)) r) : Ev d mX12_extend (14, [some (vR (some (22, 0, a0))), some (vI x1), some (vI x2), some (vI x3)], [], (I, S)) r :=
  s_aload_n rfl rfl rfl <|
  s_iload_n rfl rfl rfl <|
  s_if_lt 38 rfl rfl kt kf
theorem b_X12_extend_19 {d : Nat} {r : PO × PM} {I : Nat → Nat → Int} {S : PS} {a0 as0 : Nat} {x1 x2 x3 z : Int} {I1 : Nat → Nat → Int} {S1 : PS} (c : Ca d mX12_vertices [vR (some (22, 0, a0)), vI x1] (I, S) (.inl (some (vI z))) (I1, S1)) (k : Ev (d + 1) mX12_extend (25, [some (vR (some (22, 0, a0))), some (vI x1), some (vI x2), some (vI x3)], [vI z, vI x3, vR (some (22, 0, as0))], (I1, S1)) r) : Ev (d + 1) mX12_extend (19, [some (vR (some (22, 0, a0))), some (vI x1), some (vI x2), some (vI x3)], [vR (some (22, 0, as0))], (I, S)) r :=
  s_iload_n rfl rfl rfl <|
  s_aload_n rfl rfl rfl <|
  s_iload_n rfl rfl rfl <|
  s_cvI rfl rfl rfl rfl rfl c k
theorem b_X12_extend_25 {d : Nat} {r : PO × PM} {I : Nat → Nat → Int} {S : PS} {a0 as0 : Nat} {x1 x2 x3 xs1 xs2 z : Int} {I1 : Nat → Nat → Int} {S1 : PS} (c : Ca d mX12_ring [vR (some (22, 0, a0)), vI x1] (I, S) (.inl (some (vI z))) (I1, S1)) (k : Ev (d + 1) mX12_extend (30, [some (vR (some (22, 0, a0))), some (vI x1), some (vI x2), some (vI x3)], [vI z, vI xs2, vI xs1, vR (some (22, 0, as0))], (I1, S1)) r) : Ev (d + 1) mX12_extend (25, [some (vR (some (22, 0, a0))), some (vI x1), some (vI x2), some (vI x3)], [vI xs2, vI xs1, vR (some (22, 0, as0))], (I, S)) r :=
  s_aload_n rfl rfl rfl <|
  s_iload_n rfl rfl rfl <|
  s_cvI rfl rfl rfl rfl rfl c k
theorem b_X12_extend_30 {d : Nat} {r : PO × PM} {I : Nat → Nat → Int} {S : PS} {a0 as0 : Nat} {x1 x2 x3 xs1 xs2 xs3 : Int} (ho1 : -2147483648 ≤ xs2 - xs3 ∧ xs2 - xs3 ≤ 2147483647) (kt : xs2 - xs3 ≤ xs1 → Ev d mX12_extend (38, [some (vR (some (22, 0, a0))), some (vI x1), some (vI x2), some (vI x3)], [vR (some (22, 0, as0))], (I, S)) r) (kf : xs1 < xs2 - xs3 → Ev d mX12_extend (34, [some (vR (some (22, 0, a0))), some (vI x1), some (vI x2), some (vI x3)], [vR (some (22, 0, as0))], (I, S)) r) : Ev d mX12_extend (30, [some (vR (some (22, 0, a0))), some (vI x1), some (vI x2), some (vI x3)], [vI xs3, vI xs2, vI xs1, vR (some (22, 0, as0))], (I, S)) r :=
  s_isubp rfl ho1 <|
  s_icmp_ge 38 rfl rfl kt kf
theorem b_X12_extend_34 {d : Nat} {r : PO × PM} {I : Nat → Nat → Int} {S : PS} {a0 as0 : Nat} {x1 x2 x3 : Int} (k : Ev d mX12_extend (39, [some (vR (some (22, 0, a0))), some (vI x1), some (vI x2), some (vI x3)], [vI 1, vR (some (22, 0, as0))], (I, S)) r) : Ev d mX12_extend (34, [some (vR (some (22, 0, a0))), some (vI x1), some (vI x2), some (vI x3)], [vR (some (22, 0, as0))], (I, S)) r :=
  s_iconst rfl rfl <|
  s_goto 39 rfl rfl k
theorem b_X12_extend_38 {d : Nat} {r : PO × PM} {I : Nat → Nat → Int} {S : PS} {a0 as0 : Nat} {x1 x2 x3 : Int} (k : Ev d mX12_extend (39, [some (vR (some (22, 0, a0))), some (vI x1), some (vI x2), some (vI x3)], [vI 0, vR (some (22, 0, as0))], (I, S)) r) : Ev d mX12_extend (38, [some (vR (some (22, 0, a0))), some (vI x1), some (vI x2), some (vI x3)], [vR (some (22, 0, as0))], (I, S)) r :=
  s_iconst rfl rfl <|
  k
theorem b_X12_extend_39 {d : Nat} {r : PO × PM} {I : Nat → Nat → Int} {S : PS} {a0 as0 : Nat} {x1 x2 x3 xs1 z : Int} {I1 : Nat → Nat → Int} {S1 : PS} (c : Ca d mX12_right [vR (some (22, 0, as0)), vI xs1, vI 1] (I, S) (.inl (some (vI z))) (I1, S1)) (k : Ev (d + 1) mX12_extend (43, [some (vR (some (22, 0, a0))), some (vI x1), some (vI x2), some (vI x3)], [vI z], (I1, S1)) r) : Ev (d + 1) mX12_extend (39, [some (vR (some (22, 0, a0))), some (vI x1), some (vI x2), some (vI x3)], [vI xs1, vR (some (22, 0, as0))], (I, S)) r :=
  s_iconst rfl rfl <|
  s_cvI rfl rfl rfl rfl rfl c k
theorem b_X12_extend_43 {d : Nat} {r : PO × PM} {I : Nat → Nat → Int} {S : PS} {a0 : Nat} {x1 x2 x3 xs0 : Int} (kt : xs0 ≠ 0 → Ev d mX12_extend (48, [some (vR (some (22, 0, a0))), some (vI x1), some (vI x2), some (vI x3)], [], (I, S)) r) (kf : xs0 = 0 → Ev d mX12_extend (46, [some (vR (some (22, 0, a0))), some (vI x1), some (vI x2), some (vI x3)], [], (I, S)) r) : Ev d mX12_extend (43, [some (vR (some (22, 0, a0))), some (vI x1), some (vI x2), some (vI x3)], [vI xs0], (I, S)) r :=
  s_if_ne 48 rfl rfl kt kf
theorem b_X12_extend_46 {d : Nat} {I : Nat → Nat → Int} {S : PS} {a0 : Nat} {x1 x2 x3 : Int} : Ev d mX12_extend (46, [some (vR (some (22, 0, a0))), some (vI x1), some (vI x2), some (vI x3)], [], (I, S)) (.inl (some (vI 0)), (I, S)) :=
  s_iconst rfl rfl <|
  s_ret rfl rfl
theorem b_X12_extend_48 {d : Nat} {r : PO × PM} {I : Nat → Nat → Int} {S : PS} {a0 p1 q1 : Nat} {x1 x2 x3 z : Int} {I1 : Nat → Nat → Int} {S1 : PS} (hr1 : S.1 a0 28 = some (0, q1, p1)) (ho2 : -2147483648 ≤ 96 * x1 ∧ 96 * x1 ≤ 2147483647) (ho3 : -2147483648 ≤ (96 * x1) + x2 ∧ (96 * x1) + x2 ≤ 2147483647) (hi4 : 0 ≤ (96 * x1) + x2 ∧ (96 * x1) + x2 < (q1 : Nat)) (c : Ca d mX12_doesExtend [vR (some (22, 0, a0)), vI x1, vI (I p1 ((96 * x1) + x2).toNat), vI 0] (I, S) (.inl (some (vI z))) (I1, S1)) (k : Ev (d + 1) mX12_extend (65, [some (vR (some (22, 0, a0))), some (vI x1), some (vI x2), some (vI x3)], [vI z], (I1, S1)) r) : Ev (d + 1) mX12_extend (48, [some (vR (some (22, 0, a0))), some (vI x1), some (vI x2), some (vI x3)], [], (I, S)) r :=
  s_aload_n rfl rfl rfl <|
  s_iload_n rfl rfl rfl <|
  s_aload_n rfl rfl rfl <|
  s_getR rfl rfl rfl hr1 <|
  s_bipush rfl rfl <|
  s_iload_n rfl rfl rfl <|
  s_imulp rfl ho2 <|
  s_iload_n rfl rfl rfl <|
  s_iaddp rfl ho3 <|
  s_iald rfl rfl hi4 <|
  s_iconst rfl rfl <|
  s_cvI rfl rfl rfl rfl rfl c k
theorem b_X12_extend_65 {d : Nat} {r : PO × PM} {I : Nat → Nat → Int} {S : PS} {a0 : Nat} {x1 x2 x3 xs0 : Int} (kt : xs0 = 0 → Ev d mX12_extend (83, [some (vR (some (22, 0, a0))), some (vI x1), some (vI x2), some (vI x3)], [], (I, S)) r) (kf : xs0 ≠ 0 → Ev d mX12_extend (68, [some (vR (some (22, 0, a0))), some (vI x1), some (vI x2), some (vI x3)], [], (I, S)) r) : Ev d mX12_extend (65, [some (vR (some (22, 0, a0))), some (vI x1), some (vI x2), some (vI x3)], [vI xs0], (I, S)) r :=
  s_if_eq 83 rfl rfl kt kf
theorem b_X12_extend_68 {d : Nat} {r : PO × PM} {I : Nat → Nat → Int} {S : PS} {a0 p1 q1 : Nat} {x1 x2 x3 z : Int} {I1 : Nat → Nat → Int} {S1 : PS} (hr1 : S.1 a0 33 = some (0, q1, p1)) (c : Ca d mX12_ring [vR (some (22, 0, a0)), vI x1] (I, S) (.inl (some (vI z))) (I1, S1)) (k : Ev (d + 1) mX12_extend (77, [some (vR (some (22, 0, a0))), some (vI x1), some (vI x2), some (vI x3)], [vI z, vR (some (0, q1, p1))], (I1, S1)) r) : Ev (d + 1) mX12_extend (68, [some (vR (some (22, 0, a0))), some (vI x1), some (vI x2), some (vI x3)], [], (I, S)) r :=
  s_aload_n rfl rfl rfl <|
  s_getR rfl rfl rfl hr1 <|
  s_aload_n rfl rfl rfl <|
  s_iload_n rfl rfl rfl <|
  s_cvI rfl rfl rfl rfl rfl c k
theorem b_X12_extend_77 {d : Nat} {r : PO × PM} {I : Nat → Nat → Int} {S : PS} {a0 ns0 as0 : Nat} {x1 x2 x3 xs1 : Int} (ho1 : -2147483648 ≤ xs1 + x3 ∧ xs1 + x3 ≤ 2147483647) (hi2 : 0 ≤ xs1 + x3 ∧ xs1 + x3 < (ns0 : Nat)) (k : Ev d mX12_extend (84, [some (vR (some (22, 0, a0))), some (vI x1), some (vI x2), some (vI x3)], [vI (I as0 (xs1 + x3).toNat)], (I, S)) r) : Ev d mX12_extend (77, [some (vR (some (22, 0, a0))), some (vI x1), some (vI x2), some (vI x3)], [vI xs1, vR (some (0, ns0, as0))], (I, S)) r :=
  s_iload_n rfl rfl rfl <|
  s_iaddp rfl ho1 <|
  s_iald rfl rfl hi2 <|
  s_goto 84 rfl rfl k
theorem b_X12_extend_83 {d : Nat} {r : PO × PM} {I : Nat → Nat → Int} {S : PS} {a0 : Nat} {x1 x2 x3 : Int} (k : Ev d mX12_extend (84, [some (vR (some (22, 0, a0))), some (vI x1), some (vI x2), some (vI x3)], [vI (-1)], (I, S)) r) : Ev d mX12_extend (83, [some (vR (some (22, 0, a0))), some (vI x1), some (vI x2), some (vI x3)], [], (I, S)) r :=
  s_iconst rfl rfl <|
  k
theorem b_X12_extend_84 {d : Nat} {I : Nat → Nat → Int} {S : PS} {a0 : Nat} {x1 x2 x3 xs0 : Int} : Ev d mX12_extend (84, [some (vR (some (22, 0, a0))), some (vI x1), some (vI x2), some (vI x3)], [vI xs0], (I, S)) (.inl (some (vI xs0)), (I, S)) :=
  s_ret rfl rfl
theorem b_X12_runs_0 {d : Nat} {r : PO × PM} {I : Nat → Nat → Int} {S : PS} {a0 : Nat} {x1 x2 x3 x4 z : Int} {I1 : Nat → Nat → Int} {S1 : PS} (c : Ca d mX12_isColouring [vR (some (22, 0, a0)), vI x1, vI x2] ((up2 I a0 0 0), S) (.inl (some (vI z))) (I1, S1)) (k : Ev (d + 1) mX12_runs (11, [some (vR (some (22, 0, a0))), some (vI x1), some (vI x2), some (vI x3), some (vI x4)], [vI z], (I1, S1)) r) : Ev (d + 1) mX12_runs (0, [some (vR (some (22, 0, a0))), some (vI x1), some (vI x2), some (vI x3), some (vI x4)], [], (I, S)) r :=
  s_aload_n rfl rfl rfl <|
  s_iconst rfl rfl <|
  s_putI rfl rfl rfl <|
  s_aload_n rfl rfl rfl <|
  s_iload_n rfl rfl rfl <|
  s_iload_n rfl rfl rfl <|
  s_cvI rfl rfl rfl rfl rfl c k
theorem b_X12_runs_11 {d : Nat} {r : PO × PM} {I : Nat → Nat → Int} {S : PS} {a0 : Nat} {x1 x2 x3 x4 xs0 : Int} (kt : xs0 = 0 → Ev d mX12_runs (33, [some (vR (some (22, 0, a0))), some (vI x1), some (vI x2), some (vI x3), some (vI x4)], [], (I, S)) r) (kf : xs0 ≠ 0 → Ev d mX12_runs (14, [some (vR (some (22, 0, a0))), some (vI x1), some (vI x2), some (vI x3), some (vI x4)], [], (I, S)) r) : Ev d mX12_runs (11, [some (vR (some (22, 0, a0))), some (vI x1), some (vI x2), some (vI x3), some (vI x4)], [vI xs0], (I, S)) r :=
  s_if_eq 33 rfl rfl kt kf
theorem b_X12_runs_14 {d : Nat} {r : PO × PM} {I : Nat → Nat → Int} {S : PS} {a0 : Nat} {x1 x2 x3 x4 z : Int} {I1 : Nat → Nat → Int} {S1 : PS} (c : Ca d mX12_isWhat [vR (some (22, 0, a0)), vI x3, vI 2] (I, S) (.inl (some (vI z))) (I1, S1)) (k : Ev (d + 1) mX12_runs (20, [some (vR (some (22, 0, a0))), some (vI x1), some (vI x2), some (vI x3), some (vI x4)], [vI z], (I1, S1)) r) : Ev (d + 1) mX12_runs (14, [some (vR (some (22, 0, a0))), some (vI x1), some (vI x2), some (vI x3), some (vI x4)], [], (I, S)) r :=
  s_aload_n rfl rfl rfl <|
  s_iload_n rfl rfl rfl <|
  s_iconst rfl rfl <|
  s_cvI rfl rfl rfl rfl rfl c k
theorem b_X12_runs_20 {d : Nat} {r : PO × PM} {I : Nat → Nat → Int} {S : PS} {a0 : Nat} {x1 x2 x3 x4 xs0 : Int} (kt : xs0 = 0 → Ev d mX12_runs (33, [some (vR (some (22, 0, a0))), some (vI x1), some (vI x2), some (vI x3), some (vI x4)], [], (I, S)) r) (kf : xs0 ≠ 0 → Ev d mX12_runs (23, [some (vR (some (22, 0, a0))), some (vI x1), some (vI x2), some (vI x3), some (vI x4)], [], (I, S)) r) : Ev d mX12_runs (20, [some (vR (some (22, 0, a0))), some (vI x1), some (vI x2), some (vI x3), some (vI x4)], [vI xs0], (I, S)) r :=
  s_if_eq 33 rfl rfl kt kf
theorem b_X12_runs_23 {d : Nat} {r : PO × PM} {I : Nat → Nat → Int} {S : PS} {a0 : Nat} {x1 x2 x3 x4 z : Int} {I1 : Nat → Nat → Int} {S1 : PS} (c : Ca d mX12_isWhat [vR (some (22, 0, a0)), vI x4, vI 1] (I, S) (.inl (some (vI z))) (I1, S1)) (k : Ev (d + 1) mX12_runs (30, [some (vR (some (22, 0, a0))), some (vI x1), some (vI x2), some (vI x3), some (vI x4)], [vI z], (I1, S1)) r) : Ev (d + 1) mX12_runs (23, [some (vR (some (22, 0, a0))), some (vI x1), some (vI x2), some (vI x3), some (vI x4)], [], (I, S)) r :=
  s_aload_n rfl rfl rfl <|
  s_iload rfl rfl rfl <|
  s_iconst rfl rfl <|
  s_cvI rfl rfl rfl rfl rfl c k
theorem b_X12_runs_30 {d : Nat} {r : PO × PM} {I : Nat → Nat → Int} {S : PS} {a0 : Nat} {x1 x2 x3 x4 xs0 : Int} (kt : xs0 ≠ 0 → Ev d mX12_runs (35, [some (vR (some (22, 0, a0))), some (vI x1), some (vI x2), some (vI x3), some (vI x4)], [], (I, S)) r) (kf : xs0 = 0 → Ev d mX12_runs (33, [some (vR (some (22, 0, a0))), some (vI x1), some (vI x2), some (vI x3), some (vI x4)], [], (I, S)) r) : Ev d mX12_runs (30, [some (vR (some (22, 0, a0))), some (vI x1), some (vI x2), some (vI x3), some (vI x4)], [vI xs0], (I, S)) r :=
  s_if_ne 35 rfl rfl kt kf
theorem b_X12_runs_33 {d : Nat} {I : Nat → Nat → Int} {S : PS} {a0 : Nat} {x1 x2 x3 x4 : Int} : Ev d mX12_runs (33, [some (vR (some (22, 0, a0))), some (vI x1), some (vI x2), some (vI x3), some (vI x4)], [], (I, S)) (.inl (some (vI 0)), (I, S)) :=
  s_iconst rfl rfl <|
  s_ret rfl rfl
theorem b_X12_runs_35 {d : Nat} {r : PO × PM} {I : Nat → Nat → Int} {S : PS} {a0 p1 q1 : Nat} {x1 x2 x3 x4 : Int} {I1 : Nat → Nat → Int} {S1 : PS} (hr1 : S.1 a0 28 = some (0, q1, p1)) (ho2 : -2147483648 ≤ 96 * x1 ∧ 96 * x1 ≤ 2147483647) (ho3 : -2147483648 ≤ (96 * x1) + x2 ∧ (96 * x1) + x2 ≤ 2147483647) (hi4 : 0 ≤ (96 * x1) + x2 ∧ (96 * x1) + x2 < (q1 : Nat)) (c : Ca d mX12_laysRuns [vR (some (22, 0, a0)), vI x1, vI (I p1 ((96 * x1) + x2).toNat), vI x3] (I, S) (.inl none) (I1, S1)) (k : Ev (d + 1) mX12_runs (52, [some (vR (some (22, 0, a0))), some (vI x1), some (vI x2), some (vI x3), some (vI x4)], [], (I1, S1)) r) : Ev (d + 1) mX12_runs (35, [some (vR (some (22, 0, a0))), some (vI x1), some (vI x2), some (vI x3), some (vI x4)], [], (I, S)) r :=
  s_aload_n rfl rfl rfl <|
  s_iload_n rfl rfl rfl <|
  s_aload_n rfl rfl rfl <|
  s_getR rfl rfl rfl hr1 <|
  s_bipush rfl rfl <|
  s_iload_n rfl rfl rfl <|
  s_imulp rfl ho2 <|
  s_iload_n rfl rfl rfl <|
  s_iaddp rfl ho3 <|
  s_iald rfl rfl hi4 <|
  s_iload_n rfl rfl rfl <|
  s_cvV rfl rfl rfl rfl rfl c k
theorem b_X12_runs_52 {d : Nat} {r : PO × PM} {I : Nat → Nat → Int} {S : PS} {a0 : Nat} {x1 x2 x3 x4 : Int} (kt : x4 ≠ 0 → Ev d mX12_runs (64, [some (vR (some (22, 0, a0))), some (vI x1), some (vI x2), some (vI x3), some (vI x4)], [], (I, S)) r) (kf : x4 = 0 → Ev d mX12_runs (57, [some (vR (some (22, 0, a0))), some (vI x1), some (vI x2), some (vI x3), some (vI x4)], [], (I, S)) r) : Ev d mX12_runs (52, [some (vR (some (22, 0, a0))), some (vI x1), some (vI x2), some (vI x3), some (vI x4)], [], (I, S)) r :=
  s_iload rfl rfl rfl <|
  s_if_ne 64 rfl rfl kt kf
theorem b_X12_runs_57 {d : Nat} {r : PO × PM} {I : Nat → Nat → Int} {S : PS} {a0 : Nat} {x1 x2 x3 x4 : Int} (k : Ev d mX12_runs (68, [some (vR (some (22, 0, a0))), some (vI x1), some (vI x2), some (vI x3), some (vI x4)], [vI (I a0 37)], (I, S)) r) : Ev d mX12_runs (57, [some (vR (some (22, 0, a0))), some (vI x1), some (vI x2), some (vI x3), some (vI x4)], [], (I, S)) r :=
  s_aload_n rfl rfl rfl <|
  s_getI rfl rfl rfl <|
  s_goto 68 rfl rfl k
theorem b_X12_runs_64 {d : Nat} {r : PO × PM} {I : Nat → Nat → Int} {S : PS} {a0 : Nat} {x1 x2 x3 x4 z : Int} {I1 : Nat → Nat → Int} {S1 : PS} (c : Ca d mX12_fences [vR (some (22, 0, a0))] (I, S) (.inl (some (vI z))) (I1, S1)) (k : Ev (d + 1) mX12_runs (68, [some (vR (some (22, 0, a0))), some (vI x1), some (vI x2), some (vI x3), some (vI x4)], [vI z], (I1, S1)) r) : Ev (d + 1) mX12_runs (64, [some (vR (some (22, 0, a0))), some (vI x1), some (vI x2), some (vI x3), some (vI x4)], [], (I, S)) r :=
  s_aload_n rfl rfl rfl <|
  s_cvI rfl rfl rfl rfl rfl c k
theorem b_X12_runs_68 {d : Nat} {I : Nat → Nat → Int} {S : PS} {a0 : Nat} {x1 x2 x3 x4 xs0 : Int} : Ev d mX12_runs (68, [some (vR (some (22, 0, a0))), some (vI x1), some (vI x2), some (vI x3), some (vI x4)], [vI xs0], (I, S)) (.inl (some (vI xs0)), (I, S)) :=
  s_ret rfl rfl
theorem b_X12_switched_0 {d : Nat} {r : PO × PM} {I : Nat → Nat → Int} {S : PS} {a0 : Nat} {x1 x2 x3 x4 z : Int} {I1 : Nat → Nat → Int} {S1 : PS} (c : Ca d mX12_isColouring [vR (some (22, 0, a0)), vI x1, vI x2] ((up2 I a0 0 0), S) (.inl (some (vI z))) (I1, S1)) (k : Ev (d + 1) mX12_switched (11, [some (vR (some (22, 0, a0))), some (vI x1), some (vI x2), some (vI x3), some (vI x4)], [vI z], (I1, S1)) r) : Ev (d + 1) mX12_switched (0, [some (vR (some (22, 0, a0))), some (vI x1), some (vI x2), some (vI x3), some (vI x4)], [], (I, S)) r :=
  s_aload_n rfl rfl rfl <|
  s_iconst rfl rfl <|
  s_putI rfl rfl rfl <|
  s_aload_n rfl rfl rfl <|
  s_iload_n rfl rfl rfl <|
  s_iload_n rfl rfl rfl <|
  s_cvI rfl rfl rfl rfl rfl c k
theorem b_X12_switched_11 {d : Nat} {r : PO × PM} {I : Nat → Nat → Int} {S : PS} {a0 : Nat} {x1 x2 x3 x4 xs0 : Int} (kt : xs0 = 0 → Ev d mX12_switched (23, [some (vR (some (22, 0, a0))), some (vI x1), some (vI x2), some (vI x3), some (vI x4)], [], (I, S)) r) (kf : xs0 ≠ 0 → Ev d mX12_switched (14, [some (vR (some (22, 0, a0))), some (vI x1), some (vI x2), some (vI x3), some (vI x4)], [], (I, S)) r) : Ev d mX12_switched (11, [some (vR (some (22, 0, a0))), some (vI x1), some (vI x2), some (vI x3), some (vI x4)], [vI xs0], (I, S)) r :=
  s_if_eq 23 rfl rfl kt kf
theorem b_X12_switched_14 {d : Nat} {r : PO × PM} {I : Nat → Nat → Int} {S : PS} {a0 : Nat} {x1 x2 x3 x4 z : Int} {I1 : Nat → Nat → Int} {S1 : PS} (c : Ca d mX12_isWhat [vR (some (22, 0, a0)), vI x3, vI 2] (I, S) (.inl (some (vI z))) (I1, S1)) (k : Ev (d + 1) mX12_switched (20, [some (vR (some (22, 0, a0))), some (vI x1), some (vI x2), some (vI x3), some (vI x4)], [vI z], (I1, S1)) r) : Ev (d + 1) mX12_switched (14, [some (vR (some (22, 0, a0))), some (vI x1), some (vI x2), some (vI x3), some (vI x4)], [], (I, S)) r :=
  s_aload_n rfl rfl rfl <|
  s_iload_n rfl rfl rfl <|
  s_iconst rfl rfl <|
  s_cvI rfl rfl rfl rfl rfl c k
theorem b_X12_switched_20 {d : Nat} {r : PO × PM} {I : Nat → Nat → Int} {S : PS} {a0 : Nat} {x1 x2 x3 x4 xs0 : Int} (kt : xs0 ≠ 0 → Ev d mX12_switched (25, [some (vR (some (22, 0, a0))), some (vI x1), some (vI x2), some (vI x3), some (vI x4)], [], (I, S)) r) (kf : xs0 = 0 → Ev d mX12_switched (23, [some (vR (some (22, 0, a0))), some (vI x1), some (vI x2), some (vI x3), some (vI x4)], [], (I, S)) r) : Ev d mX12_switched (20, [some (vR (some (22, 0, a0))), some (vI x1), some (vI x2), some (vI x3), some (vI x4)], [vI xs0], (I, S)) r :=
  s_if_ne 25 rfl rfl kt kf
theorem b_X12_switched_23 {d : Nat} {I : Nat → Nat → Int} {S : PS} {a0 : Nat} {x1 x2 x3 x4 : Int} : Ev d mX12_switched (23, [some (vR (some (22, 0, a0))), some (vI x1), some (vI x2), some (vI x3), some (vI x4)], [], (I, S)) (.inl (some (vI 0)), (I, S)) :=
  s_iconst rfl rfl <|
  s_ret rfl rfl
theorem b_X12_switched_25 {d : Nat} {r : PO × PM} {I : Nat → Nat → Int} {S : PS} {a0 p1 q1 : Nat} {x1 x2 x3 x4 : Int} {I1 : Nat → Nat → Int} {S1 : PS} (hr1 : S.1 a0 28 = some (0, q1, p1)) (ho2 : -2147483648 ≤ 96 * x1 ∧ 96 * x1 ≤ 2147483647) (ho3 : -2147483648 ≤ (96 * x1) + x2 ∧ (96 * x1) + x2 ≤ 2147483647) (hi4 : 0 ≤ (96 * x1) + x2 ∧ (96 * x1) + x2 < (q1 : Nat)) (c : Ca d mX12_laysRuns [vR (some (22, 0, a0)), vI x1, vI (I p1 ((96 * x1) + x2).toNat), vI x3] (I, S) (.inl none) (I1, S1)) (k : Ev (d + 1) mX12_switched (42, [some (vR (some (22, 0, a0))), some (vI x1), some (vI x2), some (vI x3), some (vI x4)], [], (I1, S1)) r) : Ev (d + 1) mX12_switched (25, [some (vR (some (22, 0, a0))), some (vI x1), some (vI x2), some (vI x3), some (vI x4)], [], (I, S)) r :=
  s_aload_n rfl rfl rfl <|
  s_iload_n rfl rfl rfl <|
  s_aload_n rfl rfl rfl <|
  s_getR rfl rfl rfl hr1 <|
  s_bipush rfl rfl <|
  s_iload_n rfl rfl rfl <|
  s_imulp rfl ho2 <|
  s_iload_n rfl rfl rfl <|
  s_iaddp rfl ho3 <|
  s_iald rfl rfl hi4 <|
  s_iload_n rfl rfl rfl <|
  s_cvV rfl rfl rfl rfl rfl c k
theorem b_X12_switched_42 {d : Nat} {r : PO × PM} {I : Nat → Nat → Int} {S : PS} {a0 : Nat} {x1 x2 x3 x4 : Int} (kt : x4 < 0 → Ev d mX12_switched (63, [some (vR (some (22, 0, a0))), some (vI x1), some (vI x2), some (vI x3), some (vI x4)], [vR (some (22, 0, a0))], (I, S)) r) (kf : 0 ≤ x4 → Ev d mX12_switched (48, [some (vR (some (22, 0, a0))), some (vI x1), some (vI x2), some (vI x3), some (vI x4)], [vR (some (22, 0, a0))], (I, S)) r) : Ev d mX12_switched (42, [some (vR (some (22, 0, a0))), some (vI x1), some (vI x2), some (vI x3), some (vI x4)], [], (I, S)) r :=
  s_aload_n rfl rfl rfl <|
  s_iload rfl rfl rfl <|
  s_if_lt 63 rfl rfl kt kf
theorem b_X12_switched_48 {d : Nat} {r : PO × PM} {I : Nat → Nat → Int} {S : PS} {a0 as0 : Nat} {x1 x2 x3 x4 : Int} (kt : p_shl 1 (I a0 37) ≤ x4 → Ev d mX12_switched (63, [some (vR (some (22, 0, a0))), some (vI x1), some (vI x2), some (vI x3), some (vI x4)], [vR (some (22, 0, as0))], (I, S)) r) (kf : x4 < p_shl 1 (I a0 37) → Ev d mX12_switched (59, [some (vR (some (22, 0, a0))), some (vI x1), some (vI x2), some (vI x3), some (vI x4)], [vR (some (22, 0, as0))], (I, S)) r) : Ev d mX12_switched (48, [some (vR (some (22, 0, a0))), some (vI x1), some (vI x2), some (vI x3), some (vI x4)], [vR (some (22, 0, as0))], (I, S)) r :=
  s_iload rfl rfl rfl <|
  s_iconst rfl rfl <|
  s_aload_n rfl rfl rfl <|
  s_getI rfl rfl rfl <|
  s_ishl rfl <|
  s_icmp_ge 63 rfl rfl kt kf
theorem b_X12_switched_59 {d : Nat} {r : PO × PM} {I : Nat → Nat → Int} {S : PS} {a0 as0 : Nat} {x1 x2 x3 x4 : Int} (k : Ev d mX12_switched (64, [some (vR (some (22, 0, a0))), some (vI x1), some (vI x2), some (vI x3), some (vI x4)], [vI 1, vR (some (22, 0, as0))], (I, S)) r) : Ev d mX12_switched (59, [some (vR (some (22, 0, a0))), some (vI x1), some (vI x2), some (vI x3), some (vI x4)], [vR (some (22, 0, as0))], (I, S)) r :=
  s_iconst rfl rfl <|
  s_goto 64 rfl rfl k
theorem b_X12_switched_63 {d : Nat} {r : PO × PM} {I : Nat → Nat → Int} {S : PS} {a0 as0 : Nat} {x1 x2 x3 x4 : Int} (k : Ev d mX12_switched (64, [some (vR (some (22, 0, a0))), some (vI x1), some (vI x2), some (vI x3), some (vI x4)], [vI 0, vR (some (22, 0, as0))], (I, S)) r) : Ev d mX12_switched (63, [some (vR (some (22, 0, a0))), some (vI x1), some (vI x2), some (vI x3), some (vI x4)], [vR (some (22, 0, as0))], (I, S)) r :=
  s_iconst rfl rfl <|
  k
theorem b_X12_switched_64 {d : Nat} {r : PO × PM} {I : Nat → Nat → Int} {S : PS} {a0 as0 : Nat} {x1 x2 x3 x4 xs1 z : Int} {I1 : Nat → Nat → Int} {S1 : PS} (c : Ca d mX12_right [vR (some (22, 0, as0)), vI xs1, vI 2] (I, S) (.inl (some (vI z))) (I1, S1)) (k : Ev (d + 1) mX12_switched (68, [some (vR (some (22, 0, a0))), some (vI x1), some (vI x2), some (vI x3), some (vI x4)], [vI z], (I1, S1)) r) : Ev (d + 1) mX12_switched (64, [some (vR (some (22, 0, a0))), some (vI x1), some (vI x2), some (vI x3), some (vI x4)], [vI xs1, vR (some (22, 0, as0))], (I, S)) r :=
  s_iconst rfl rfl <|
  s_cvI rfl rfl rfl rfl rfl c k
theorem b_X12_switched_68 {d : Nat} {r : PO × PM} {I : Nat → Nat → Int} {S : PS} {a0 : Nat} {x1 x2 x3 x4 xs0 : Int} (kt : xs0 ≠ 0 → Ev d mX12_switched (73, [some (vR (some (22, 0, a0))), some (vI x1), some (vI x2), some (vI x3), some (vI x4)], [], (I, S)) r) (kf : xs0 = 0 → Ev d mX12_switched (71, [some (vR (some (22, 0, a0))), some (vI x1), some (vI x2), some (vI x3), some (vI x4)], [], (I, S)) r) : Ev d mX12_switched (68, [some (vR (some (22, 0, a0))), some (vI x1), some (vI x2), some (vI x3), some (vI x4)], [vI xs0], (I, S)) r :=
  s_if_ne 73 rfl rfl kt kf
theorem b_X12_switched_71 {d : Nat} {I : Nat → Nat → Int} {S : PS} {a0 : Nat} {x1 x2 x3 x4 : Int} : Ev d mX12_switched (71, [some (vR (some (22, 0, a0))), some (vI x1), some (vI x2), some (vI x3), some (vI x4)], [], (I, S)) (.inl (some (vI 0)), (I, S)) :=
  s_iconst rfl rfl <|
  s_ret rfl rfl
theorem b_X12_switched_73 {d : Nat} {r : PO × PM} {I : Nat → Nat → Int} {S : PS} {a0 p1 q1 : Nat} {x1 x2 x3 x4 z : Int} {I1 : Nat → Nat → Int} {S1 : PS} (hr1 : S.1 a0 28 = some (0, q1, p1)) (ho2 : -2147483648 ≤ 96 * x1 ∧ 96 * x1 ≤ 2147483647) (ho3 : -2147483648 ≤ (96 * x1) + x2 ∧ (96 * x1) + x2 ≤ 2147483647) (hi4 : 0 ≤ (96 * x1) + x2 ∧ (96 * x1) + x2 < (q1 : Nat)) (c : Ca d mX12_switched0 [vR (some (22, 0, a0)), vI x1, vI (I p1 ((96 * x1) + x2).toNat), vI x3, vI x4] (I, S) (.inl (some (vI z))) (I1, S1)) (k : Ev (d + 1) mX12_switched (94, [some (vR (some (22, 0, a0))), some (vI x1), some (vI x2), some (vI x3), some (vI x4)], [vI z, vI x1, vR (some (22, 0, a0))], (I1, S1)) r) : Ev (d + 1) mX12_switched (73, [some (vR (some (22, 0, a0))), some (vI x1), some (vI x2), some (vI x3), some (vI x4)], [], (I, S)) r :=
  s_aload_n rfl rfl rfl <|
  s_iload_n rfl rfl rfl <|
  s_aload_n rfl rfl rfl <|
  s_iload_n rfl rfl rfl <|
  s_aload_n rfl rfl rfl <|
  s_getR rfl rfl rfl hr1 <|
  s_bipush rfl rfl <|
  s_iload_n rfl rfl rfl <|
  s_imulp rfl ho2 <|
  s_iload_n rfl rfl rfl <|
  s_iaddp rfl ho3 <|
  s_iald rfl rfl hi4 <|
  s_iload_n rfl rfl rfl <|
  s_iload rfl rfl rfl <|
  s_cvI rfl rfl rfl rfl rfl c k
theorem b_X12_switched_94 {d : Nat} {r : PO × PM} {I : Nat → Nat → Int} {S : PS} {a0 as0 : Nat} {x1 x2 x3 x4 xs1 xs2 z : Int} {I1 : Nat → Nat → Int} {S1 : PS} (c : Ca d mX12_find [vR (some (22, 0, as0)), vI xs1, vI xs2] (I, S) (.inl (some (vI z))) (I1, S1)) (k : Ev (d + 1) mX12_switched (97, [some (vR (some (22, 0, a0))), some (vI x1), some (vI x2), some (vI x3), some (vI x4)], [vI z], (I1, S1)) r) : Ev (d + 1) mX12_switched (94, [some (vR (some (22, 0, a0))), some (vI x1), some (vI x2), some (vI x3), some (vI x4)], [vI xs2, vI xs1, vR (some (22, 0, as0))], (I, S)) r :=
  s_cvI rfl rfl rfl rfl rfl c k
theorem b_X12_switched_97 {d : Nat} {I : Nat → Nat → Int} {S : PS} {a0 : Nat} {x1 x2 x3 x4 xs0 : Int} : Ev d mX12_switched (97, [some (vR (some (22, 0, a0))), some (vI x1), some (vI x2), some (vI x3), some (vI x4)], [vI xs0], (I, S)) (.inl (some (vI xs0)), (I, S)) :=
  s_ret rfl rfl
theorem b_X12_set_0 {d : Nat} {r : PO × PM} {I : Nat → Nat → Int} {S : PS} {a0 : Nat} {x1 x2 x3 z : Int} {I1 : Nat → Nat → Int} {S1 : PS} (c : Ca d mX12_isPiece [vR (some (22, 0, a0)), vI x1] ((up2 I a0 0 0), S) (.inl (some (vI z))) (I1, S1)) (k : Ev (d + 1) mX12_set (10, [some (vR (some (22, 0, a0))), some (vI x1), some (vI x2), some (vI x3), none, none, none, none], [vI z], (I1, S1)) r) : Ev (d + 1) mX12_set (0, [some (vR (some (22, 0, a0))), some (vI x1), some (vI x2), some (vI x3), none, none, none, none], [], (I, S)) r :=
  s_aload_n rfl rfl rfl <|
  s_iconst rfl rfl <|
  s_putI rfl rfl rfl <|
  s_aload_n rfl rfl rfl <|
  s_iload_n rfl rfl rfl <|
  s_cvI rfl rfl rfl rfl rfl c k
theorem b_X12_set_10 {d : Nat} {r : PO × PM} {I : Nat → Nat → Int} {S : PS} {a0 : Nat} {x1 x2 x3 xs0 : Int} (kt : xs0 = 0 → Ev d mX12_set (31, [some (vR (some (22, 0, a0))), some (vI x1), some (vI x2), some (vI x3), none, none, none, none], [], (I, S)) r) (kf : xs0 ≠ 0 → Ev d mX12_set (13, [some (vR (some (22, 0, a0))), some (vI x1), some (vI x2), some (vI x3), none, none, none, none], [], (I, S)) r) : Ev d mX12_set (10, [some (vR (some (22, 0, a0))), some (vI x1), some (vI x2), some (vI x3), none, none, none, none], [vI xs0], (I, S)) r :=
  s_if_eq 31 rfl rfl kt kf
theorem b_X12_set_13 {d : Nat} {r : PO × PM} {I : Nat → Nat → Int} {S : PS} {a0 : Nat} {x1 x2 x3 z : Int} {I1 : Nat → Nat → Int} {S1 : PS} (c : Ca d mX12_isWhat [vR (some (22, 0, a0)), vI x2, vI 2] (I, S) (.inl (some (vI z))) (I1, S1)) (k : Ev (d + 1) mX12_set (19, [some (vR (some (22, 0, a0))), some (vI x1), some (vI x2), some (vI x3), none, none, none, none], [vI z], (I1, S1)) r) : Ev (d + 1) mX12_set (13, [some (vR (some (22, 0, a0))), some (vI x1), some (vI x2), some (vI x3), none, none, none, none], [], (I, S)) r :=
  s_aload_n rfl rfl rfl <|
  s_iload_n rfl rfl rfl <|
  s_iconst rfl rfl <|
  s_cvI rfl rfl rfl rfl rfl c k
theorem b_X12_set_19 {d : Nat} {r : PO × PM} {I : Nat → Nat → Int} {S : PS} {a0 : Nat} {x1 x2 x3 xs0 : Int} (kt : xs0 = 0 → Ev d mX12_set (31, [some (vR (some (22, 0, a0))), some (vI x1), some (vI x2), some (vI x3), none, none, none, none], [], (I, S)) r) (kf : xs0 ≠ 0 → Ev d mX12_set (22, [some (vR (some (22, 0, a0))), some (vI x1), some (vI x2), some (vI x3), none, none, none, none], [], (I, S)) r) : Ev d mX12_set (19, [some (vR (some (22, 0, a0))), some (vI x1), some (vI x2), some (vI x3), none, none, none, none], [vI xs0], (I, S)) r :=
  s_if_eq 31 rfl rfl kt kf
theorem b_X12_set_22 {d : Nat} {r : PO × PM} {I : Nat → Nat → Int} {S : PS} {a0 : Nat} {x1 x2 x3 z : Int} {I1 : Nat → Nat → Int} {S1 : PS} (c : Ca d mX12_isWhat [vR (some (22, 0, a0)), vI x3, vI 2] (I, S) (.inl (some (vI z))) (I1, S1)) (k : Ev (d + 1) mX12_set (28, [some (vR (some (22, 0, a0))), some (vI x1), some (vI x2), some (vI x3), none, none, none, none], [vI z], (I1, S1)) r) : Ev (d + 1) mX12_set (22, [some (vR (some (22, 0, a0))), some (vI x1), some (vI x2), some (vI x3), none, none, none, none], [], (I, S)) r :=
  s_aload_n rfl rfl rfl <|
  s_iload_n rfl rfl rfl <|
  s_iconst rfl rfl <|
  s_cvI rfl rfl rfl rfl rfl c k
theorem b_X12_set_28 {d : Nat} {r : PO × PM} {I : Nat → Nat → Int} {S : PS} {a0 : Nat} {x1 x2 x3 xs0 : Int} (kt : xs0 ≠ 0 → Ev d mX12_set (33, [some (vR (some (22, 0, a0))), some (vI x1), some (vI x2), some (vI x3), none, none, none, none], [], (I, S)) r) (kf : xs0 = 0 → Ev d mX12_set (31, [some (vR (some (22, 0, a0))), some (vI x1), some (vI x2), some (vI x3), none, none, none, none], [], (I, S)) r) : Ev d mX12_set (28, [some (vR (some (22, 0, a0))), some (vI x1), some (vI x2), some (vI x3), none, none, none, none], [vI xs0], (I, S)) r :=
  s_if_ne 33 rfl rfl kt kf
theorem b_X12_set_31 {d : Nat} {I : Nat → Nat → Int} {S : PS} {a0 : Nat} {x1 x2 x3 : Int} : Ev d mX12_set (31, [some (vR (some (22, 0, a0))), some (vI x1), some (vI x2), some (vI x3), none, none, none, none], [], (I, S)) (.inl (some (vI 0)), (I, S)) :=
  s_iconst rfl rfl <|
  s_ret rfl rfl
theorem b_X12_set_33 {d : Nat} {r : PO × PM} {I : Nat → Nat → Int} {S : PS} {a0 : Nat} {x1 x2 x3 : Int} (k : Ev d mX12_set (39, [some (vR (some (22, 0, a0))), some (vI x1), some (vI x2), some (vI x3), some (vI 0), some (vI 0), none, none], [], (I, S)) r) : Ev d mX12_set (33, [some (vR (some (22, 0, a0))), some (vI x1), some (vI x2), some (vI x3), none, none, none, none], [], (I, S)) r :=
  s_iconst rfl rfl <|
  s_istore [some (vR (some (22, 0, a0))), some (vI x1), some (vI x2), some (vI x3), some (vI 0), none, none, none] rfl rfl <|
  s_iconst rfl rfl <|
  s_istore [some (vR (some (22, 0, a0))), some (vI x1), some (vI x2), some (vI x3), some (vI 0), some (vI 0), none, none] rfl rfl <|
  k
theorem b_X12_set_39 {d : Nat} {r : PO × PM} {I : Nat → Nat → Int} {S : PS} {a0 : Nat} {x1 x2 x3 x4 x5 : Int} (kt : 32 ≤ x5 → Ev d mX12_set (165, [some (vR (some (22, 0, a0))), some (vI x1), some (vI x2), some (vI x3), some (vI x4), some (vI x5), none, none], [], (I, S)) r) (kf : x5 < 32 → Ev d mX12_set (46, [some (vR (some (22, 0, a0))), some (vI x1), some (vI x2), some (vI x3), some (vI x4), some (vI x5), none, none], [], (I, S)) r) : Ev d mX12_set (39, [some (vR (some (22, 0, a0))), some (vI x1), some (vI x2), some (vI x3), some (vI x4), some (vI x5), none, none], [], (I, S)) r :=
  s_iload rfl rfl rfl <|
  s_bipush rfl rfl <|
  s_icmp_ge 165 rfl rfl kt kf
theorem b_X12_set_46 {d : Nat} {r : PO × PM} {I : Nat → Nat → Int} {S : PS} {a0 p3 q3 : Nat} {x1 x2 x3 x4 x5 : Int} (ho1 : -2147483648 ≤ 32 * x3 ∧ 32 * x3 ≤ 2147483647) (ho2 : -2147483648 ≤ (32 * x3) + x5 ∧ (32 * x3) + x5 ≤ 2147483647) (hr3 : S.1 a0 27 = some (0, q3, p3)) (hi4 : 0 ≤ x1 ∧ x1 < (q3 : Nat)) (kt : I p3 x1.toNat ≤ (32 * x3) + x5 → Ev d mX12_set (165, [some (vR (some (22, 0, a0))), some (vI x1), some (vI x2), some (vI x3), some (vI x4), some (vI x5), none, none], [], (I, S)) r) (kf : (32 * x3) + x5 < I p3 x1.toNat → Ev d mX12_set (62, [some (vR (some (22, 0, a0))), some (vI x1), some (vI x2), some (vI x3), some (vI x4), some (vI x5), none, none], [], (I, S)) r) : Ev d mX12_set (46, [some (vR (some (22, 0, a0))), some (vI x1), some (vI x2), some (vI x3), some (vI x4), some (vI x5), none, none], [], (I, S)) r :=
  s_bipush rfl rfl <|
  s_iload_n rfl rfl rfl <|
  s_imulp rfl ho1 <|
  s_iload rfl rfl rfl <|
  s_iaddp rfl ho2 <|
  s_aload_n rfl rfl rfl <|
  s_getR rfl rfl rfl hr3 <|
  s_iload_n rfl rfl rfl <|
  s_iald rfl rfl hi4 <|
  s_icmp_ge 165 rfl rfl kt kf
theorem b_X12_set_62 {d : Nat} {r : PO × PM} {I : Nat → Nat → Int} {S : PS} {a0 : Nat} {x1 x2 x3 x4 x5 : Int} (ho1 : -2147483648 ≤ 96 * x1 ∧ 96 * x1 ≤ 2147483647) (ho2 : -2147483648 ≤ 32 * x3 ∧ 32 * x3 ≤ 2147483647) (ho3 : -2147483648 ≤ (96 * x1) + (32 * x3) ∧ (96 * x1) + (32 * x3) ≤ 2147483647) (ho4 : -2147483648 ≤ ((96 * x1) + (32 * x3)) + x5 ∧ ((96 * x1) + (32 * x3)) + x5 ≤ 2147483647) (kt : x2 ≠ 0 → Ev d mX12_set (99, [some (vR (some (22, 0, a0))), some (vI x1), some (vI x2), some (vI x3), some (vI x4), some (vI x5), some (vI (((96 * x1) + (32 * x3)) + x5)), none], [], (I, S)) r) (kf : x2 = 0 → Ev d mX12_set (80, [some (vR (some (22, 0, a0))), some (vI x1), some (vI x2), some (vI x3), some (vI x4), some (vI x5), some (vI (((96 * x1) + (32 * x3)) + x5)), none], [], (I, S)) r) : Ev d mX12_set (62, [some (vR (some (22, 0, a0))), some (vI x1), some (vI x2), some (vI x3), some (vI x4), some (vI x5), none, none], [], (I, S)) r :=
  s_bipush rfl rfl <|
  s_iload_n rfl rfl rfl <|
  s_imulp rfl ho1 <|
  s_bipush rfl rfl <|
  s_iload_n rfl rfl rfl <|
  s_imulp rfl ho2 <|
  s_iaddp rfl ho3 <|
  s_iload rfl rfl rfl <|
  s_iaddp rfl ho4 <|
  s_istore [some (vR (some (22, 0, a0))), some (vI x1), some (vI x2), some (vI x3), some (vI x4), some (vI x5), some (vI (((96 * x1) + (32 * x3)) + x5)), none] rfl rfl <|
  s_iload_n rfl rfl rfl <|
  s_if_ne 99 rfl rfl kt kf
theorem b_X12_set_80 {d : Nat} {r : PO × PM} {I : Nat → Nat → Int} {S : PS} {a0 p1 q1 : Nat} {x1 x2 x3 x4 x5 x6 : Int} (hr1 : S.1 a0 29 = some (0, q1, p1)) (hi2 : 0 ≤ x6 ∧ x6 < (q1 : Nat)) (kt : I p1 x6.toNat ≠ 1 → Ev d mX12_set (95, [some (vR (some (22, 0, a0))), some (vI x1), some (vI x2), some (vI x3), some (vI x4), some (vI x5), some (vI x6), none], [], (I, S)) r) (kf : I p1 x6.toNat = 1 → Ev d mX12_set (91, [some (vR (some (22, 0, a0))), some (vI x1), some (vI x2), some (vI x3), some (vI x4), some (vI x5), some (vI x6), none], [], (I, S)) r) : Ev d mX12_set (80, [some (vR (some (22, 0, a0))), some (vI x1), some (vI x2), some (vI x3), some (vI x4), some (vI x5), some (vI x6), none], [], (I, S)) r :=
  s_aload_n rfl rfl rfl <|
  s_getR rfl rfl rfl hr1 <|
  s_iload rfl rfl rfl <|
  s_iald rfl rfl hi2 <|
  s_iconst rfl rfl <|
  s_icmp_ne 95 rfl rfl kt kf
theorem b_X12_set_91 {d : Nat} {r : PO × PM} {I : Nat → Nat → Int} {S : PS} {a0 : Nat} {x1 x2 x3 x4 x5 x6 : Int} (k : Ev d mX12_set (139, [some (vR (some (22, 0, a0))), some (vI x1), some (vI x2), some (vI x3), some (vI x4), some (vI x5), some (vI x6), none], [vI 1], (I, S)) r) : Ev d mX12_set (91, [some (vR (some (22, 0, a0))), some (vI x1), some (vI x2), some (vI x3), some (vI x4), some (vI x5), some (vI x6), none], [], (I, S)) r :=
  s_iconst rfl rfl <|
  s_goto 139 rfl rfl k
theorem b_X12_set_95 {d : Nat} {r : PO × PM} {I : Nat → Nat → Int} {S : PS} {a0 : Nat} {x1 x2 x3 x4 x5 x6 : Int} (k : Ev d mX12_set (139, [some (vR (some (22, 0, a0))), some (vI x1), some (vI x2), some (vI x3), some (vI x4), some (vI x5), some (vI x6), none], [vI 0], (I, S)) r) : Ev d mX12_set (95, [some (vR (some (22, 0, a0))), some (vI x1), some (vI x2), some (vI x3), some (vI x4), some (vI x5), some (vI x6), none], [], (I, S)) r :=
  s_iconst rfl rfl <|
  s_goto 139 rfl rfl k
theorem b_X12_set_99 {d : Nat} {r : PO × PM} {I : Nat → Nat → Int} {S : PS} {a0 : Nat} {x1 x2 x3 x4 x5 x6 : Int} (kt : x2 ≠ 1 → Ev d mX12_set (123, [some (vR (some (22, 0, a0))), some (vI x1), some (vI x2), some (vI x3), some (vI x4), some (vI x5), some (vI x6), none], [], (I, S)) r) (kf : x2 = 1 → Ev d mX12_set (104, [some (vR (some (22, 0, a0))), some (vI x1), some (vI x2), some (vI x3), some (vI x4), some (vI x5), some (vI x6), none], [], (I, S)) r) : Ev d mX12_set (99, [some (vR (some (22, 0, a0))), some (vI x1), some (vI x2), some (vI x3), some (vI x4), some (vI x5), some (vI x6), none], [], (I, S)) r :=
  s_iload_n rfl rfl rfl <|
  s_iconst rfl rfl <|
  s_icmp_ne 123 rfl rfl kt kf
theorem b_X12_set_104 {d : Nat} {r : PO × PM} {I : Nat → Nat → Int} {S : PS} {a0 p1 q1 : Nat} {x1 x2 x3 x4 x5 x6 : Int} (hr1 : S.1 a0 31 = some (0, q1, p1)) (hi2 : 0 ≤ x6 ∧ x6 < (q1 : Nat)) (kt : I p1 x6.toNat ≠ (-1) → Ev d mX12_set (119, [some (vR (some (22, 0, a0))), some (vI x1), some (vI x2), some (vI x3), some (vI x4), some (vI x5), some (vI x6), none], [], (I, S)) r) (kf : I p1 x6.toNat = (-1) → Ev d mX12_set (115, [some (vR (some (22, 0, a0))), some (vI x1), some (vI x2), some (vI x3), some (vI x4), some (vI x5), some (vI x6), none], [], (I, S)) r) : Ev d mX12_set (104, [some (vR (some (22, 0, a0))), some (vI x1), some (vI x2), some (vI x3), some (vI x4), some (vI x5), some (vI x6), none], [], (I, S)) r :=
  s_aload_n rfl rfl rfl <|
  s_getR rfl rfl rfl hr1 <|
  s_iload rfl rfl rfl <|
  s_iald rfl rfl hi2 <|
  s_iconst rfl rfl <|
  s_icmp_ne 119 rfl rfl kt kf
theorem b_X12_set_115 {d : Nat} {r : PO × PM} {I : Nat → Nat → Int} {S : PS} {a0 : Nat} {x1 x2 x3 x4 x5 x6 : Int} (k : Ev d mX12_set (139, [some (vR (some (22, 0, a0))), some (vI x1), some (vI x2), some (vI x3), some (vI x4), some (vI x5), some (vI x6), none], [vI 1], (I, S)) r) : Ev d mX12_set (115, [some (vR (some (22, 0, a0))), some (vI x1), some (vI x2), some (vI x3), some (vI x4), some (vI x5), some (vI x6), none], [], (I, S)) r :=
  s_iconst rfl rfl <|
  s_goto 139 rfl rfl k
theorem b_X12_set_119 {d : Nat} {r : PO × PM} {I : Nat → Nat → Int} {S : PS} {a0 : Nat} {x1 x2 x3 x4 x5 x6 : Int} (k : Ev d mX12_set (139, [some (vR (some (22, 0, a0))), some (vI x1), some (vI x2), some (vI x3), some (vI x4), some (vI x5), some (vI x6), none], [vI 0], (I, S)) r) : Ev d mX12_set (119, [some (vR (some (22, 0, a0))), some (vI x1), some (vI x2), some (vI x3), some (vI x4), some (vI x5), some (vI x6), none], [], (I, S)) r :=
  s_iconst rfl rfl <|
  s_goto 139 rfl rfl k
theorem b_X12_set_123 {d : Nat} {r : PO × PM} {I : Nat → Nat → Int} {S : PS} {a0 p1 q1 : Nat} {x1 x2 x3 x4 x5 x6 : Int} (hr1 : S.1 a0 30 = some (0, q1, p1)) (hi2 : 0 ≤ x6 ∧ x6 < (q1 : Nat)) (kt : I p1 x6.toNat ≠ 1 → Ev d mX12_set (138, [some (vR (some (22, 0, a0))), some (vI x1), some (vI x2), some (vI x3), some (vI x4), some (vI x5), some (vI x6), none], [], (I, S)) r) (kf : I p1 x6.toNat = 1 → Ev d mX12_set (134, [some (vR (some (22, 0, a0))), some (vI x1), some (vI x2), some (vI x3), some (vI x4), some (vI x5), some (vI x6), none], [], (I, S)) r) : Ev d mX12_set (123, [some (vR (some (22, 0, a0))), some (vI x1), some (vI x2), some (vI x3), some (vI x4), some (vI x5), some (vI x6), none], [], (I, S)) r :=
  s_aload_n rfl rfl rfl <|
  s_getR rfl rfl rfl hr1 <|
  s_iload rfl rfl rfl <|
  s_iald rfl rfl hi2 <|
  s_iconst rfl rfl <|
  s_icmp_ne 138 rfl rfl kt kf
theorem b_X12_set_134 {d : Nat} {r : PO × PM} {I : Nat → Nat → Int} {S : PS} {a0 : Nat} {x1 x2 x3 x4 x5 x6 : Int} (k : Ev d mX12_set (139, [some (vR (some (22, 0, a0))), some (vI x1), some (vI x2), some (vI x3), some (vI x4), some (vI x5), some (vI x6), none], [vI 1], (I, S)) r) : Ev d mX12_set (134, [some (vR (some (22, 0, a0))), some (vI x1), some (vI x2), some (vI x3), some (vI x4), some (vI x5), some (vI x6), none], [], (I, S)) r :=
  s_iconst rfl rfl <|
  s_goto 139 rfl rfl k
theorem b_X12_set_138 {d : Nat} {r : PO × PM} {I : Nat → Nat → Int} {S : PS} {a0 : Nat} {x1 x2 x3 x4 x5 x6 : Int} (k : Ev d mX12_set (139, [some (vR (some (22, 0, a0))), some (vI x1), some (vI x2), some (vI x3), some (vI x4), some (vI x5), some (vI x6), none], [vI 0], (I, S)) r) : Ev d mX12_set (138, [some (vR (some (22, 0, a0))), some (vI x1), some (vI x2), some (vI x3), some (vI x4), some (vI x5), some (vI x6), none], [], (I, S)) r :=
  s_iconst rfl rfl <|
  k
theorem b_X12_set_139 {d : Nat} {r : PO × PM} {I : Nat → Nat → Int} {S : PS} {a0 : Nat} {x1 x2 x3 x4 x5 x6 xs0 : Int} (kt : xs0 = 0 → Ev d mX12_set (155, [some (vR (some (22, 0, a0))), some (vI x1), some (vI x2), some (vI x3), some (vI x4), some (vI x5), some (vI x6), some (vI xs0)], [vI x4], (I, S)) r) (kf : xs0 ≠ 0 → Ev d mX12_set (148, [some (vR (some (22, 0, a0))), some (vI x1), some (vI x2), some (vI x3), some (vI x4), some (vI x5), some (vI x6), some (vI xs0)], [vI x4], (I, S)) r) : Ev d mX12_set (139, [some (vR (some (22, 0, a0))), some (vI x1), some (vI x2), some (vI x3), some (vI x4), some (vI x5), some (vI x6), none], [vI xs0], (I, S)) r :=
  s_istore [some (vR (some (22, 0, a0))), some (vI x1), some (vI x2), some (vI x3), some (vI x4), some (vI x5), some (vI x6), some (vI xs0)] rfl rfl <|
  s_iload rfl rfl rfl <|
  s_iload rfl rfl rfl <|
  s_if_eq 155 rfl rfl kt kf
theorem b_X12_set_148 {d : Nat} {r : PO × PM} {I : Nat → Nat → Int} {S : PS} {a0 : Nat} {x1 x2 x3 x4 x5 x6 x7 xs0 : Int} (k : Ev d mX12_set (156, [some (vR (some (22, 0, a0))), some (vI x1), some (vI x2), some (vI x3), some (vI x4), some (vI x5), some (vI x6), some (vI x7)], [vI (p_shl 1 x5), vI xs0], (I, S)) r) : Ev d mX12_set (148, [some (vR (some (22, 0, a0))), some (vI x1), some (vI x2), some (vI x3), some (vI x4), some (vI x5), some (vI x6), some (vI x7)], [vI xs0], (I, S)) r :=
  s_iconst rfl rfl <|
  s_iload rfl rfl rfl <|
  s_ishl rfl <|
  s_goto 156 rfl rfl k
theorem b_X12_set_155 {d : Nat} {r : PO × PM} {I : Nat → Nat → Int} {S : PS} {a0 : Nat} {x1 x2 x3 x4 x5 x6 x7 xs0 : Int} (k : Ev d mX12_set (156, [some (vR (some (22, 0, a0))), some (vI x1), some (vI x2), some (vI x3), some (vI x4), some (vI x5), some (vI x6), some (vI x7)], [vI 0, vI xs0], (I, S)) r) : Ev d mX12_set (155, [some (vR (some (22, 0, a0))), some (vI x1), some (vI x2), some (vI x3), some (vI x4), some (vI x5), some (vI x6), some (vI x7)], [vI xs0], (I, S)) r :=
  s_iconst rfl rfl <|
  k
theorem b_X12_set_156 {d : Nat} {r : PO × PM} {I : Nat → Nat → Int} {S : PS} {a0 : Nat} {x1 x2 x3 x4 x5 x6 x7 xs0 xs1 : Int} (ho1 : -2147483648 ≤ x5 + 1 ∧ x5 + 1 ≤ 2147483647) (k : Ev d mX12_set (39, [some (vR (some (22, 0, a0))), some (vI x1), some (vI x2), some (vI x3), some (vI (p_or xs0 xs1)), some (vI (x5 + 1)), none, none], [], (I, S)) r) : Ev d mX12_set (156, [some (vR (some (22, 0, a0))), some (vI x1), some (vI x2), some (vI x3), some (vI x4), some (vI x5), some (vI x6), some (vI x7)], [vI xs1, vI xs0], (I, S)) r :=
  s_ior rfl <|
  s_istore [some (vR (some (22, 0, a0))), some (vI x1), some (vI x2), some (vI x3), some (vI (p_or xs0 xs1)), some (vI x5), some (vI x6), some (vI x7)] rfl rfl <|
  s_iincp [some (vR (some (22, 0, a0))), some (vI x1), some (vI x2), some (vI x3), some (vI (p_or xs0 xs1)), some (vI (x5 + 1)), some (vI x6), some (vI x7)] rfl rfl ho1 rfl <|
  s_goto 39 rfl rfl (ev_forget [false, false, false, false, false, false, true, true] rfl k)
theorem b_X12_set_165 {d : Nat} {I : Nat → Nat → Int} {S : PS} {a0 : Nat} {x1 x2 x3 x4 x5 : Int} : Ev d mX12_set (165, [some (vR (some (22, 0, a0))), some (vI x1), some (vI x2), some (vI x3), some (vI x4), some (vI x5), none, none], [], (I, S)) (.inl (some (vI x4)), (I, S)) :=
  s_iload rfl rfl rfl <|
  s_ret rfl rfl
theorem b_X12_isIn_0 {d : Nat} {r : PO × PM} {I : Nat → Nat → Int} {S : PS} {a0 p1 q1 : Nat} {x1 x2 x3 : Int} (hr1 : S.1 a0 20 = some (0, q1, p1)) (ho2 : -2147483648 ≤ 8 * x1 ∧ 8 * x1 ≤ 2147483647) (ho3 : -2147483648 ≤ (8 * x1) + x2 ∧ (8 * x1) + x2 ≤ 2147483647) (hi4 : 0 ≤ (8 * x1) + x2 ∧ (8 * x1) + x2 < (q1 : Nat)) (kt : x3 < I p1 ((8 * x1) + x2).toNat → Ev d mX12_isIn (36, [some (vR (some (22, 0, a0))), some (vI x1), some (vI x2), some (vI x3)], [], (I, S)) r) (kf : I p1 ((8 * x1) + x2).toNat ≤ x3 → Ev d mX12_isIn (15, [some (vR (some (22, 0, a0))), some (vI x1), some (vI x2), some (vI x3)], [], (I, S)) r) : Ev d mX12_isIn (0, [some (vR (some (22, 0, a0))), some (vI x1), some (vI x2), some (vI x3)], [], (I, S)) r :=
  s_iload_n rfl rfl rfl <|
  s_aload_n rfl rfl rfl <|
  s_getR rfl rfl rfl hr1 <|
  s_bipush rfl rfl <|
  s_iload_n rfl rfl rfl <|
  s_imulp rfl ho2 <|
  s_iload_n rfl rfl rfl <|
  s_iaddp rfl ho3 <|
  s_iald rfl rfl hi4 <|
  s_icmp_lt 36 rfl rfl kt kf
theorem b_X12_isIn_15 {d : Nat} {r : PO × PM} {I : Nat → Nat → Int} {S : PS} {a0 p1 q1 : Nat} {x1 x2 x3 : Int} (hr1 : S.1 a0 20 = some (0, q1, p1)) (ho2 : -2147483648 ≤ 8 * x1 ∧ 8 * x1 ≤ 2147483647) (ho3 : -2147483648 ≤ (8 * x1) + x2 ∧ (8 * x1) + x2 ≤ 2147483647) (ho4 : -2147483648 ≤ ((8 * x1) + x2) + 1 ∧ ((8 * x1) + x2) + 1 ≤ 2147483647) (hi5 : 0 ≤ ((8 * x1) + x2) + 1 ∧ ((8 * x1) + x2) + 1 < (q1 : Nat)) (kt : I p1 (((8 * x1) + x2) + 1).toNat < x3 → Ev d mX12_isIn (36, [some (vR (some (22, 0, a0))), some (vI x1), some (vI x2), some (vI x3)], [], (I, S)) r) (kf : x3 ≤ I p1 (((8 * x1) + x2) + 1).toNat → Ev d mX12_isIn (32, [some (vR (some (22, 0, a0))), some (vI x1), some (vI x2), some (vI x3)], [], (I, S)) r) : Ev d mX12_isIn (15, [some (vR (some (22, 0, a0))), some (vI x1), some (vI x2), some (vI x3)], [], (I, S)) r :=
  s_iload_n rfl rfl rfl <|
  s_aload_n rfl rfl rfl <|
  s_getR rfl rfl rfl hr1 <|
  s_bipush rfl rfl <|
  s_iload_n rfl rfl rfl <|
  s_imulp rfl ho2 <|
  s_iload_n rfl rfl rfl <|
  s_iaddp rfl ho3 <|
  s_iconst rfl rfl <|
  s_iaddp rfl ho4 <|
  s_iald rfl rfl hi5 <|
  s_icmp_gt 36 rfl rfl kt kf
theorem b_X12_isIn_32 {d : Nat} {r : PO × PM} {I : Nat → Nat → Int} {S : PS} {a0 : Nat} {x1 x2 x3 : Int} (k : Ev d mX12_isIn (37, [some (vR (some (22, 0, a0))), some (vI x1), some (vI x2), some (vI x3)], [vI 1], (I, S)) r) : Ev d mX12_isIn (32, [some (vR (some (22, 0, a0))), some (vI x1), some (vI x2), some (vI x3)], [], (I, S)) r :=
  s_iconst rfl rfl <|
  s_goto 37 rfl rfl k
theorem b_X12_isIn_36 {d : Nat} {r : PO × PM} {I : Nat → Nat → Int} {S : PS} {a0 : Nat} {x1 x2 x3 : Int} (k : Ev d mX12_isIn (37, [some (vR (some (22, 0, a0))), some (vI x1), some (vI x2), some (vI x3)], [vI 0], (I, S)) r) : Ev d mX12_isIn (36, [some (vR (some (22, 0, a0))), some (vI x1), some (vI x2), some (vI x3)], [], (I, S)) r :=
  s_iconst rfl rfl <|
  k
theorem b_X12_isIn_37 {d : Nat} {I : Nat → Nat → Int} {S : PS} {a0 : Nat} {x1 x2 x3 xs0 : Int} (hb1 : xs0 = 0 ∨ xs0 = 1) : Ev d mX12_isIn (37, [some (vR (some (22, 0, a0))), some (vI x1), some (vI x2), some (vI x3)], [vI xs0], (I, S)) (.inl (some (vI xs0)), (I, S)) :=
  s_retz rfl rfl hb1
theorem b_X12_doesSend_0 {d : Nat} {r : PO × PM} {I : Nat → Nat → Int} {S : PS} {a0 : Nat} {x1 x2 x3 x4 x5 z : Int} {I1 : Nat → Nat → Int} {S1 : PS} (c : Ca d mX12_isIn [vR (some (22, 0, a0)), vI x1, vI 1, vI x2] (I, S) (.inl (some (vI z))) (I1, S1)) (k : Ev (d + 1) mX12_doesSend (7, [some (vR (some (22, 0, a0))), some (vI x1), some (vI x2), some (vI x3), some (vI x4), some (vI x5), none], [vI z], (I1, S1)) r) : Ev (d + 1) mX12_doesSend (0, [some (vR (some (22, 0, a0))), some (vI x1), some (vI x2), some (vI x3), some (vI x4), some (vI x5), none], [], (I, S)) r :=
  s_aload_n rfl rfl rfl <|
  s_iload_n rfl rfl rfl <|
  s_iconst rfl rfl <|
  s_iload_n rfl rfl rfl <|
  s_cvI rfl rfl rfl rfl rfl c k
theorem b_X12_doesSend_7 {d : Nat} {r : PO × PM} {I : Nat → Nat → Int} {S : PS} {a0 : Nat} {x1 x2 x3 x4 x5 xs0 : Int} (kt : xs0 = 0 → Ev d mX12_doesSend (20, [some (vR (some (22, 0, a0))), some (vI x1), some (vI x2), some (vI x3), some (vI x4), some (vI x5), none], [], (I, S)) r) (kf : xs0 ≠ 0 → Ev d mX12_doesSend (10, [some (vR (some (22, 0, a0))), some (vI x1), some (vI x2), some (vI x3), some (vI x4), some (vI x5), none], [], (I, S)) r) : Ev d mX12_doesSend (7, [some (vR (some (22, 0, a0))), some (vI x1), some (vI x2), some (vI x3), some (vI x4), some (vI x5), none], [vI xs0], (I, S)) r :=
  s_if_eq 20 rfl rfl kt kf
theorem b_X12_doesSend_10 {d : Nat} {r : PO × PM} {I : Nat → Nat → Int} {S : PS} {a0 : Nat} {x1 x2 x3 x4 x5 z : Int} {I1 : Nat → Nat → Int} {S1 : PS} (c : Ca d mX12_isIn [vR (some (22, 0, a0)), vI x1, vI 3, vI x3] (I, S) (.inl (some (vI z))) (I1, S1)) (k : Ev (d + 1) mX12_doesSend (17, [some (vR (some (22, 0, a0))), some (vI x1), some (vI x2), some (vI x3), some (vI x4), some (vI x5), none], [vI z], (I1, S1)) r) : Ev (d + 1) mX12_doesSend (10, [some (vR (some (22, 0, a0))), some (vI x1), some (vI x2), some (vI x3), some (vI x4), some (vI x5), none], [], (I, S)) r :=
  s_aload_n rfl rfl rfl <|
  s_iload_n rfl rfl rfl <|
  s_iconst rfl rfl <|
  s_iload_n rfl rfl rfl <|
  s_cvI rfl rfl rfl rfl rfl c k
theorem b_X12_doesSend_17 {d : Nat} {r : PO × PM} {I : Nat → Nat → Int} {S : PS} {a0 : Nat} {x1 x2 x3 x4 x5 xs0 : Int} (kt : xs0 ≠ 0 → Ev d mX12_doesSend (22, [some (vR (some (22, 0, a0))), some (vI x1), some (vI x2), some (vI x3), some (vI x4), some (vI x5), none], [], (I, S)) r) (kf : xs0 = 0 → Ev d mX12_doesSend (20, [some (vR (some (22, 0, a0))), some (vI x1), some (vI x2), some (vI x3), some (vI x4), some (vI x5), none], [], (I, S)) r) : Ev d mX12_doesSend (17, [some (vR (some (22, 0, a0))), some (vI x1), some (vI x2), some (vI x3), some (vI x4), some (vI x5), none], [vI xs0], (I, S)) r :=
  s_if_ne 22 rfl rfl kt kf
theorem b_X12_doesSend_20 {d : Nat} {I : Nat → Nat → Int} {S : PS} {a0 : Nat} {x1 x2 x3 x4 x5 : Int} : Ev d mX12_doesSend (20, [some (vR (some (22, 0, a0))), some (vI x1), some (vI x2), some (vI x3), some (vI x4), some (vI x5), none], [], (I, S)) (.inl (some (vI 0)), (I, S)) :=
  s_iconst rfl rfl <|
  s_ret rfl rfl
theorem b_X12_doesSend_22 {d : Nat} {r : PO × PM} {I : Nat → Nat → Int} {S : PS} {a0 p1 q1 : Nat} {x1 x2 x3 x4 x5 : Int} (hr1 : S.1 a0 20 = some (0, q1, p1)) (ho2 : -2147483648 ≤ 8 * x1 ∧ 8 * x1 ≤ 2147483647) (ho3 : -2147483648 ≤ (8 * x1) + 7 ∧ (8 * x1) + 7 ≤ 2147483647) (hi4 : 0 ≤ (8 * x1) + 7 ∧ (8 * x1) + 7 < (q1 : Nat)) (kt : I p1 ((8 * x1) + 7).toNat = 0 → Ev d mX12_doesSend (94, [some (vR (some (22, 0, a0))), some (vI x1), some (vI x2), some (vI x3), some (vI x4), some (vI x5), some (vI (I p1 ((8 * x1) + 7).toNat))], [], (I, S)) r) (kf : I p1 ((8 * x1) + 7).toNat ≠ 0 → Ev d mX12_doesSend (41, [some (vR (some (22, 0, a0))), some (vI x1), some (vI x2), some (vI x3), some (vI x4), some (vI x5), some (vI (I p1 ((8 * x1) + 7).toNat))], [], (I, S)) r) : Ev d mX12_doesSend (22, [some (vR (some (22, 0, a0))), some (vI x1), some (vI x2), some (vI x3), some (vI x4), some (vI x5), none], [], (I, S)) r :=
  s_aload_n rfl rfl rfl <|
  s_getR rfl rfl rfl hr1 <|
  s_bipush rfl rfl <|
  s_iload_n rfl rfl rfl <|
  s_imulp rfl ho2 <|
  s_bipush rfl rfl <|
  s_iaddp rfl ho3 <|
  s_iald rfl rfl hi4 <|
  s_istore [some (vR (some (22, 0, a0))), some (vI x1), some (vI x2), some (vI x3), some (vI x4), some (vI x5), some (vI (I p1 ((8 * x1) + 7).toNat))] rfl rfl <|
  s_iload rfl rfl rfl <|
  s_if_eq 94 rfl rfl kt kf
theorem b_X12_doesSend_41 {d : Nat} {r : PO × PM} {I : Nat → Nat → Int} {S : PS} {a0 : Nat} {x1 x2 x3 x4 x5 x6 : Int} (kt : x6 ≠ 1 → Ev d mX12_doesSend (72, [some (vR (some (22, 0, a0))), some (vI x1), some (vI x2), some (vI x3), some (vI x4), some (vI x5), some (vI x6)], [], (I, S)) r) (kf : x6 = 1 → Ev d mX12_doesSend (47, [some (vR (some (22, 0, a0))), some (vI x1), some (vI x2), some (vI x3), some (vI x4), some (vI x5), some (vI x6)], [], (I, S)) r) : Ev d mX12_doesSend (41, [some (vR (some (22, 0, a0))), some (vI x1), some (vI x2), some (vI x3), some (vI x4), some (vI x5), some (vI x6)], [], (I, S)) r :=
  s_iload rfl rfl rfl <|
  s_iconst rfl rfl <|
  s_icmp_ne 72 rfl rfl kt kf
theorem b_X12_doesSend_47 {d : Nat} {r : PO × PM} {I : Nat → Nat → Int} {S : PS} {a0 : Nat} {x1 x2 x3 x4 x5 x6 z : Int} {I1 : Nat → Nat → Int} {S1 : PS} (c : Ca d mX12_isIn [vR (some (22, 0, a0)), vI x1, vI 5, vI x4] (I, S) (.inl (some (vI z))) (I1, S1)) (k : Ev (d + 1) mX12_doesSend (55, [some (vR (some (22, 0, a0))), some (vI x1), some (vI x2), some (vI x3), some (vI x4), some (vI x5), some (vI x6)], [vI z], (I1, S1)) r) : Ev (d + 1) mX12_doesSend (47, [some (vR (some (22, 0, a0))), some (vI x1), some (vI x2), some (vI x3), some (vI x4), some (vI x5), some (vI x6)], [], (I, S)) r :=
  s_aload_n rfl rfl rfl <|
  s_iload_n rfl rfl rfl <|
  s_iconst rfl rfl <|
  s_iload rfl rfl rfl <|
  s_cvI rfl rfl rfl rfl rfl c k
theorem b_X12_doesSend_55 {d : Nat} {r : PO × PM} {I : Nat → Nat → Int} {S : PS} {a0 : Nat} {x1 x2 x3 x4 x5 x6 xs0 : Int} (kt : xs0 ≠ 0 → Ev d mX12_doesSend (94, [some (vR (some (22, 0, a0))), some (vI x1), some (vI x2), some (vI x3), some (vI x4), some (vI x5), some (vI x6)], [], (I, S)) r) (kf : xs0 = 0 → Ev d mX12_doesSend (58, [some (vR (some (22, 0, a0))), some (vI x1), some (vI x2), some (vI x3), some (vI x4), some (vI x5), some (vI x6)], [], (I, S)) r) : Ev d mX12_doesSend (55, [some (vR (some (22, 0, a0))), some (vI x1), some (vI x2), some (vI x3), some (vI x4), some (vI x5), some (vI x6)], [vI xs0], (I, S)) r :=
  s_if_ne 94 rfl rfl kt kf
theorem b_X12_doesSend_58 {d : Nat} {r : PO × PM} {I : Nat → Nat → Int} {S : PS} {a0 : Nat} {x1 x2 x3 x4 x5 x6 z : Int} {I1 : Nat → Nat → Int} {S1 : PS} (c : Ca d mX12_isIn [vR (some (22, 0, a0)), vI x1, vI 5, vI x5] (I, S) (.inl (some (vI z))) (I1, S1)) (k : Ev (d + 1) mX12_doesSend (66, [some (vR (some (22, 0, a0))), some (vI x1), some (vI x2), some (vI x3), some (vI x4), some (vI x5), some (vI x6)], [vI z], (I1, S1)) r) : Ev (d + 1) mX12_doesSend (58, [some (vR (some (22, 0, a0))), some (vI x1), some (vI x2), some (vI x3), some (vI x4), some (vI x5), some (vI x6)], [], (I, S)) r :=
  s_aload_n rfl rfl rfl <|
  s_iload_n rfl rfl rfl <|
  s_iconst rfl rfl <|
  s_iload rfl rfl rfl <|
  s_cvI rfl rfl rfl rfl rfl c k
theorem b_X12_doesSend_66 {d : Nat} {r : PO × PM} {I : Nat → Nat → Int} {S : PS} {a0 : Nat} {x1 x2 x3 x4 x5 x6 xs0 : Int} (kt : xs0 = 0 → Ev d mX12_doesSend (98, [some (vR (some (22, 0, a0))), some (vI x1), some (vI x2), some (vI x3), some (vI x4), some (vI x5), some (vI x6)], [], (I, S)) r) (kf : xs0 ≠ 0 → Ev d mX12_doesSend (69, [some (vR (some (22, 0, a0))), some (vI x1), some (vI x2), some (vI x3), some (vI x4), some (vI x5), some (vI x6)], [], (I, S)) r) : Ev d mX12_doesSend (66, [some (vR (some (22, 0, a0))), some (vI x1), some (vI x2), some (vI x3), some (vI x4), some (vI x5), some (vI x6)], [vI xs0], (I, S)) r :=
  s_if_eq 98 rfl rfl kt kf
theorem b_X12_doesSend_69 {d : Nat} {r : PO × PM} {I : Nat → Nat → Int} {S : PS} {a0 : Nat} {x1 x2 x3 x4 x5 x6 : Int} (k : Ev d mX12_doesSend (94, [some (vR (some (22, 0, a0))), some (vI x1), some (vI x2), some (vI x3), some (vI x4), some (vI x5), some (vI x6)], [], (I, S)) r) : Ev d mX12_doesSend (69, [some (vR (some (22, 0, a0))), some (vI x1), some (vI x2), some (vI x3), some (vI x4), some (vI x5), some (vI x6)], [], (I, S)) r :=
  s_goto 94 rfl rfl k
theorem b_X12_doesSend_72 {d : Nat} {r : PO × PM} {I : Nat → Nat → Int} {S : PS} {a0 : Nat} {x1 x2 x3 x4 x5 x6 z : Int} {I1 : Nat → Nat → Int} {S1 : PS} (c : Ca d mX12_isIn [vR (some (22, 0, a0)), vI x1, vI 5, vI x4] (I, S) (.inl (some (vI z))) (I1, S1)) (k : Ev (d + 1) mX12_doesSend (80, [some (vR (some (22, 0, a0))), some (vI x1), some (vI x2), some (vI x3), some (vI x4), some (vI x5), some (vI x6)], [vI z], (I1, S1)) r) : Ev (d + 1) mX12_doesSend (72, [some (vR (some (22, 0, a0))), some (vI x1), some (vI x2), some (vI x3), some (vI x4), some (vI x5), some (vI x6)], [], (I, S)) r :=
  s_aload_n rfl rfl rfl <|
  s_iload_n rfl rfl rfl <|
  s_iconst rfl rfl <|
  s_iload rfl rfl rfl <|
  s_cvI rfl rfl rfl rfl rfl c k
theorem b_X12_doesSend_80 {d : Nat} {r : PO × PM} {I : Nat → Nat → Int} {S : PS} {a0 : Nat} {x1 x2 x3 x4 x5 x6 xs0 : Int} (kt : xs0 = 0 → Ev d mX12_doesSend (98, [some (vR (some (22, 0, a0))), some (vI x1), some (vI x2), some (vI x3), some (vI x4), some (vI x5), some (vI x6)], [], (I, S)) r) (kf : xs0 ≠ 0 → Ev d mX12_doesSend (83, [some (vR (some (22, 0, a0))), some (vI x1), some (vI x2), some (vI x3), some (vI x4), some (vI x5), some (vI x6)], [], (I, S)) r) : Ev d mX12_doesSend (80, [some (vR (some (22, 0, a0))), some (vI x1), some (vI x2), some (vI x3), some (vI x4), some (vI x5), some (vI x6)], [vI xs0], (I, S)) r :=
  s_if_eq 98 rfl rfl kt kf
theorem b_X12_doesSend_83 {d : Nat} {r : PO × PM} {I : Nat → Nat → Int} {S : PS} {a0 : Nat} {x1 x2 x3 x4 x5 x6 z : Int} {I1 : Nat → Nat → Int} {S1 : PS} (c : Ca d mX12_isIn [vR (some (22, 0, a0)), vI x1, vI 5, vI x5] (I, S) (.inl (some (vI z))) (I1, S1)) (k : Ev (d + 1) mX12_doesSend (91, [some (vR (some (22, 0, a0))), some (vI x1), some (vI x2), some (vI x3), some (vI x4), some (vI x5), some (vI x6)], [vI z], (I1, S1)) r) : Ev (d + 1) mX12_doesSend (83, [some (vR (some (22, 0, a0))), some (vI x1), some (vI x2), some (vI x3), some (vI x4), some (vI x5), some (vI x6)], [], (I, S)) r :=
  s_aload_n rfl rfl rfl <|
  s_iload_n rfl rfl rfl <|
  s_iconst rfl rfl <|
  s_iload rfl rfl rfl <|
  s_cvI rfl rfl rfl rfl rfl c k
theorem b_X12_doesSend_91 {d : Nat} {r : PO × PM} {I : Nat → Nat → Int} {S : PS} {a0 : Nat} {x1 x2 x3 x4 x5 x6 xs0 : Int} (kt : xs0 = 0 → Ev d mX12_doesSend (98, [some (vR (some (22, 0, a0))), some (vI x1), some (vI x2), some (vI x3), some (vI x4), some (vI x5), some (vI x6)], [], (I, S)) r) (kf : xs0 ≠ 0 → Ev d mX12_doesSend (94, [some (vR (some (22, 0, a0))), some (vI x1), some (vI x2), some (vI x3), some (vI x4), some (vI x5), some (vI x6)], [], (I, S)) r) : Ev d mX12_doesSend (91, [some (vR (some (22, 0, a0))), some (vI x1), some (vI x2), some (vI x3), some (vI x4), some (vI x5), some (vI x6)], [vI xs0], (I, S)) r :=
  s_if_eq 98 rfl rfl kt kf
theorem b_X12_doesSend_94 {d : Nat} {r : PO × PM} {I : Nat → Nat → Int} {S : PS} {a0 : Nat} {x1 x2 x3 x4 x5 x6 : Int} (k : Ev d mX12_doesSend (99, [some (vR (some (22, 0, a0))), some (vI x1), some (vI x2), some (vI x3), some (vI x4), some (vI x5), some (vI x6)], [vI 1], (I, S)) r) : Ev d mX12_doesSend (94, [some (vR (some (22, 0, a0))), some (vI x1), some (vI x2), some (vI x3), some (vI x4), some (vI x5), some (vI x6)], [], (I, S)) r :=
  s_iconst rfl rfl <|
  s_goto 99 rfl rfl k
theorem b_X12_doesSend_98 {d : Nat} {r : PO × PM} {I : Nat → Nat → Int} {S : PS} {a0 : Nat} {x1 x2 x3 x4 x5 x6 : Int} (k : Ev d mX12_doesSend (99, [some (vR (some (22, 0, a0))), some (vI x1), some (vI x2), some (vI x3), some (vI x4), some (vI x5), some (vI x6)], [vI 0], (I, S)) r) : Ev d mX12_doesSend (98, [some (vR (some (22, 0, a0))), some (vI x1), some (vI x2), some (vI x3), some (vI x4), some (vI x5), some (vI x6)], [], (I, S)) r :=
  s_iconst rfl rfl <|
  k
theorem b_X12_doesSend_99 {d : Nat} {I : Nat → Nat → Int} {S : PS} {a0 : Nat} {x1 x2 x3 x4 x5 x6 xs0 : Int} (hb1 : xs0 = 0 ∨ xs0 = 1) : Ev d mX12_doesSend (99, [some (vR (some (22, 0, a0))), some (vI x1), some (vI x2), some (vI x3), some (vI x4), some (vI x5), some (vI x6)], [vI xs0], (I, S)) (.inl (some (vI xs0)), (I, S)) :=
  s_retz rfl rfl hb1
theorem b_X12_sends0_0 {d : Nat} {r : PO × PM} {I : Nat → Nat → Int} {S : PS} {a0 : Nat} {x1 x2 x3 x4 x5 : Int} (k : Ev d mX12_sends0 (6, [some (vR (some (22, 0, a0))), some (vI x1), some (vI x2), some (vI x3), some (vI x4), some (vI x5), some (vI 0), some (vI 0)], [], (I, S)) r) : Ev d mX12_sends0 (0, [some (vR (some (22, 0, a0))), some (vI x1), some (vI x2), some (vI x3), some (vI x4), some (vI x5), none, none], [], (I, S)) r :=
  s_iconst rfl rfl <|
  s_istore [some (vR (some (22, 0, a0))), some (vI x1), some (vI x2), some (vI x3), some (vI x4), some (vI x5), some (vI 0), none] rfl rfl <|
  s_iconst rfl rfl <|
  s_istore [some (vR (some (22, 0, a0))), some (vI x1), some (vI x2), some (vI x3), some (vI x4), some (vI x5), some (vI 0), some (vI 0)] rfl rfl <|
  k
theorem b_X12_sends0_6 {d : Nat} {r : PO × PM} {I : Nat → Nat → Int} {S : PS} {a0 : Nat} {x1 x2 x3 x4 x5 x6 x7 : Int} (kt : I a0 14 ≤ x7 → Ev d mX12_sends0 (57, [some (vR (some (22, 0, a0))), some (vI x1), some (vI x2), some (vI x3), some (vI x4), some (vI x5), some (vI x6), some (vI x7)], [], (I, S)) r) (kf : x7 < I a0 14 → Ev d mX12_sends0 (15, [some (vR (some (22, 0, a0))), some (vI x1), some (vI x2), some (vI x3), some (vI x4), some (vI x5), some (vI x6), some (vI x7)], [], (I, S)) r) : Ev d mX12_sends0 (6, [some (vR (some (22, 0, a0))), some (vI x1), some (vI x2), some (vI x3), some (vI x4), some (vI x5), some (vI x6), some (vI x7)], [], (I, S)) r :=
  s_iload rfl rfl rfl <|
  s_aload_n rfl rfl rfl <|
  s_getI rfl rfl rfl <|
  s_icmp_ge 57 rfl rfl kt kf
theorem b_X12_sends0_15 {d : Nat} {r : PO × PM} {I : Nat → Nat → Int} {S : PS} {a0 : Nat} {x1 x2 x3 x4 x5 x6 x7 z : Int} {I1 : Nat → Nat → Int} {S1 : PS} (c : Ca d mX12_doesSend [vR (some (22, 0, a0)), vI x7, vI x2, vI x3, vI x4, vI x5] (I, S) (.inl (some (vI z))) (I1, S1)) (k : Ev (d + 1) mX12_sends0 (29, [some (vR (some (22, 0, a0))), some (vI x1), some (vI x2), some (vI x3), some (vI x4), some (vI x5), some (vI x6), some (vI x7)], [vI z, vI x6], (I1, S1)) r) : Ev (d + 1) mX12_sends0 (15, [some (vR (some (22, 0, a0))), some (vI x1), some (vI x2), some (vI x3), some (vI x4), some (vI x5), some (vI x6), some (vI x7)], [], (I, S)) r :=
  s_iload rfl rfl rfl <|
  s_aload_n rfl rfl rfl <|
  s_iload rfl rfl rfl <|
  s_iload_n rfl rfl rfl <|
  s_iload_n rfl rfl rfl <|
  s_iload rfl rfl rfl <|
  s_iload rfl rfl rfl <|
  s_cvI rfl rfl rfl rfl rfl c k
theorem b_X12_sends0_29 {d : Nat} {r : PO × PM} {I : Nat → Nat → Int} {S : PS} {a0 : Nat} {x1 x2 x3 x4 x5 x6 x7 xs0 xs1 : Int} (kt : xs1 = 0 → Ev d mX12_sends0 (47, [some (vR (some (22, 0, a0))), some (vI x1), some (vI x2), some (vI x3), some (vI x4), some (vI x5), some (vI x6), some (vI x7)], [vI xs0], (I, S)) r) (kf : xs1 ≠ 0 → Ev d mX12_sends0 (32, [some (vR (some (22, 0, a0))), some (vI x1), some (vI x2), some (vI x3), some (vI x4), some (vI x5), some (vI x6), some (vI x7)], [vI xs0], (I, S)) r) : Ev d mX12_sends0 (29, [some (vR (some (22, 0, a0))), some (vI x1), some (vI x2), some (vI x3), some (vI x4), some (vI x5), some (vI x6), some (vI x7)], [vI xs1, vI xs0], (I, S)) r :=
  s_if_eq 47 rfl rfl kt kf
theorem b_X12_sends0_32 {d : Nat} {r : PO × PM} {I : Nat → Nat → Int} {S : PS} {a0 p1 q1 : Nat} {x1 x2 x3 x4 x5 x6 x7 xs0 : Int} (hr1 : S.1 a0 39 = some (0, q1, p1)) (ho2 : -2147483648 ≤ x1 + 12 ∧ x1 + 12 ≤ 2147483647) (ho3 : -2147483648 ≤ x1 + 12 + x7 ∧ x1 + 12 + x7 ≤ 2147483647) (hi4 : 0 ≤ x1 + 12 + x7 ∧ x1 + 12 + x7 < (q1 : Nat)) (k : Ev d mX12_sends0 (48, [some (vR (some (22, 0, a0))), some (vI x1), some (vI x2), some (vI x3), some (vI x4), some (vI x5), some (vI x6), some (vI x7)], [vI (I p1 (x1 + 12 + x7).toNat), vI xs0], (I, S)) r) : Ev d mX12_sends0 (32, [some (vR (some (22, 0, a0))), some (vI x1), some (vI x2), some (vI x3), some (vI x4), some (vI x5), some (vI x6), some (vI x7)], [vI xs0], (I, S)) r :=
  s_aload_n rfl rfl rfl <|
  s_getR rfl rfl rfl hr1 <|
  s_iload_n rfl rfl rfl <|
  s_bipush rfl rfl <|
  s_iaddp rfl ho2 <|
  s_iload rfl rfl rfl <|
  s_iaddp rfl ho3 <|
  s_iald rfl rfl hi4 <|
  s_goto 48 rfl rfl k
theorem b_X12_sends0_47 {d : Nat} {r : PO × PM} {I : Nat → Nat → Int} {S : PS} {a0 : Nat} {x1 x2 x3 x4 x5 x6 x7 xs0 : Int} (k : Ev d mX12_sends0 (48, [some (vR (some (22, 0, a0))), some (vI x1), some (vI x2), some (vI x3), some (vI x4), some (vI x5), some (vI x6), some (vI x7)], [vI 0, vI xs0], (I, S)) r) : Ev d mX12_sends0 (47, [some (vR (some (22, 0, a0))), some (vI x1), some (vI x2), some (vI x3), some (vI x4), some (vI x5), some (vI x6), some (vI x7)], [vI xs0], (I, S)) r :=
  s_iconst rfl rfl <|
  k
theorem b_X12_sends0_48 {d : Nat} {r : PO × PM} {I : Nat → Nat → Int} {S : PS} {a0 : Nat} {x1 x2 x3 x4 x5 x6 x7 xs0 xs1 : Int} (ho1 : -2147483648 ≤ xs0 + xs1 ∧ xs0 + xs1 ≤ 2147483647) (ho2 : -2147483648 ≤ x7 + 1 ∧ x7 + 1 ≤ 2147483647) (k : Ev d mX12_sends0 (6, [some (vR (some (22, 0, a0))), some (vI x1), some (vI x2), some (vI x3), some (vI x4), some (vI x5), some (vI (xs0 + xs1)), some (vI (x7 + 1))], [], (I, S)) r) : Ev d mX12_sends0 (48, [some (vR (some (22, 0, a0))), some (vI x1), some (vI x2), some (vI x3), some (vI x4), some (vI x5), some (vI x6), some (vI x7)], [vI xs1, vI xs0], (I, S)) r :=
  s_iaddp rfl ho1 <|
  s_istore [some (vR (some (22, 0, a0))), some (vI x1), some (vI x2), some (vI x3), some (vI x4), some (vI x5), some (vI (xs0 + xs1)), some (vI x7)] rfl rfl <|
  s_iincp [some (vR (some (22, 0, a0))), some (vI x1), some (vI x2), some (vI x3), some (vI x4), some (vI x5), some (vI (xs0 + xs1)), some (vI (x7 + 1))] rfl rfl ho2 rfl <|
  s_goto 6 rfl rfl k
theorem b_X12_sends0_57 {d : Nat} {I : Nat → Nat → Int} {S : PS} {a0 : Nat} {x1 x2 x3 x4 x5 x6 x7 : Int} : Ev d mX12_sends0 (57, [some (vR (some (22, 0, a0))), some (vI x1), some (vI x2), some (vI x3), some (vI x4), some (vI x5), some (vI x6), some (vI x7)], [], (I, S)) (.inl (some (vI x6)), (I, S)) :=
  s_iload rfl rfl rfl <|
  s_ret rfl rfl
theorem b_X12_sends_0 {d : Nat} {r : PO × PM} {I : Nat → Nat → Int} {S : PS} {a0 : Nat} {x1 x2 x3 x4 z : Int} {I1 : Nat → Nat → Int} {S1 : PS} (c : Ca d mX12_within [vI x1, vI 3, vI 9] ((up2 I a0 0 0), S) (.inl (some (vI z))) (I1, S1)) (k : Ev (d + 1) mX12_sends (13, [some (vR (some (22, 0, a0))), some (vI x1), some (vI x2), some (vI x3), some (vI x4)], [vI z, vR (some (22, 0, a0))], (I1, S1)) r) : Ev (d + 1) mX12_sends (0, [some (vR (some (22, 0, a0))), some (vI x1), some (vI x2), some (vI x3), some (vI x4)], [], (I, S)) r :=
  s_aload_n rfl rfl rfl <|
  s_iconst rfl rfl <|
  s_putI rfl rfl rfl <|
  s_aload_n rfl rfl rfl <|
  s_iload_n rfl rfl rfl <|
  s_iconst rfl rfl <|
  s_bipush rfl rfl <|
  s_csI rfl rfl rfl rfl rfl rfl c k
theorem b_X12_sends_13 {d : Nat} {r : PO × PM} {I : Nat → Nat → Int} {S : PS} {a0 as0 : Nat} {x1 x2 x3 x4 xs1 : Int} (kt : xs1 = 0 → Ev d mX12_sends (51, [some (vR (some (22, 0, a0))), some (vI x1), some (vI x2), some (vI x3), some (vI x4)], [vR (some (22, 0, as0))], (I, S)) r) (kf : xs1 ≠ 0 → Ev d mX12_sends (16, [some (vR (some (22, 0, a0))), some (vI x1), some (vI x2), some (vI x3), some (vI x4)], [vR (some (22, 0, as0))], (I, S)) r) : Ev d mX12_sends (13, [some (vR (some (22, 0, a0))), some (vI x1), some (vI x2), some (vI x3), some (vI x4)], [vI xs1, vR (some (22, 0, as0))], (I, S)) r :=
  s_if_eq 51 rfl rfl kt kf
theorem b_X12_sends_16 {d : Nat} {r : PO × PM} {I : Nat → Nat → Int} {S : PS} {a0 as0 : Nat} {x1 x2 x3 x4 z : Int} {I1 : Nat → Nat → Int} {S1 : PS} (c : Ca d mX12_within [vI x2, vI 3, vI 9] (I, S) (.inl (some (vI z))) (I1, S1)) (k : Ev (d + 1) mX12_sends (23, [some (vR (some (22, 0, a0))), some (vI x1), some (vI x2), some (vI x3), some (vI x4)], [vI z, vR (some (22, 0, as0))], (I1, S1)) r) : Ev (d + 1) mX12_sends (16, [some (vR (some (22, 0, a0))), some (vI x1), some (vI x2), some (vI x3), some (vI x4)], [vR (some (22, 0, as0))], (I, S)) r :=
  s_iload_n rfl rfl rfl <|
  s_iconst rfl rfl <|
  s_bipush rfl rfl <|
  s_csI rfl rfl rfl rfl rfl rfl c k
theorem b_X12_sends_23 {d : Nat} {r : PO × PM} {I : Nat → Nat → Int} {S : PS} {a0 as0 : Nat} {x1 x2 x3 x4 xs1 : Int} (kt : xs1 = 0 → Ev d mX12_sends (51, [some (vR (some (22, 0, a0))), some (vI x1), some (vI x2), some (vI x3), some (vI x4)], [vR (some (22, 0, as0))], (I, S)) r) (kf : xs1 ≠ 0 → Ev d mX12_sends (26, [some (vR (some (22, 0, a0))), some (vI x1), some (vI x2), some (vI x3), some (vI x4)], [vR (some (22, 0, as0))], (I, S)) r) : Ev d mX12_sends (23, [some (vR (some (22, 0, a0))), some (vI x1), some (vI x2), some (vI x3), some (vI x4)], [vI xs1, vR (some (22, 0, as0))], (I, S)) r :=
  s_if_eq 51 rfl rfl kt kf
theorem b_X12_sends_26 {d : Nat} {r : PO × PM} {I : Nat → Nat → Int} {S : PS} {a0 as0 : Nat} {x1 x2 x3 x4 z : Int} {I1 : Nat → Nat → Int} {S1 : PS} (c : Ca d mX12_within [vI x3, vI 3, vI 9] (I, S) (.inl (some (vI z))) (I1, S1)) (k : Ev (d + 1) mX12_sends (33, [some (vR (some (22, 0, a0))), some (vI x1), some (vI x2), some (vI x3), some (vI x4)], [vI z, vR (some (22, 0, as0))], (I1, S1)) r) : Ev (d + 1) mX12_sends (26, [some (vR (some (22, 0, a0))), some (vI x1), some (vI x2), some (vI x3), some (vI x4)], [vR (some (22, 0, as0))], (I, S)) r :=
  s_iload_n rfl rfl rfl <|
  s_iconst rfl rfl <|
  s_bipush rfl rfl <|
  s_csI rfl rfl rfl rfl rfl rfl c k
theorem b_X12_sends_33 {d : Nat} {r : PO × PM} {I : Nat → Nat → Int} {S : PS} {a0 as0 : Nat} {x1 x2 x3 x4 xs1 : Int} (kt : xs1 = 0 → Ev d mX12_sends (51, [some (vR (some (22, 0, a0))), some (vI x1), some (vI x2), some (vI x3), some (vI x4)], [vR (some (22, 0, as0))], (I, S)) r) (kf : xs1 ≠ 0 → Ev d mX12_sends (36, [some (vR (some (22, 0, a0))), some (vI x1), some (vI x2), some (vI x3), some (vI x4)], [vR (some (22, 0, as0))], (I, S)) r) : Ev d mX12_sends (33, [some (vR (some (22, 0, a0))), some (vI x1), some (vI x2), some (vI x3), some (vI x4)], [vI xs1, vR (some (22, 0, as0))], (I, S)) r :=
  s_if_eq 51 rfl rfl kt kf
theorem b_X12_sends_36 {d : Nat} {r : PO × PM} {I : Nat → Nat → Int} {S : PS} {a0 as0 : Nat} {x1 x2 x3 x4 z : Int} {I1 : Nat → Nat → Int} {S1 : PS} (c : Ca d mX12_within [vI x4, vI 3, vI 9] (I, S) (.inl (some (vI z))) (I1, S1)) (k : Ev (d + 1) mX12_sends (44, [some (vR (some (22, 0, a0))), some (vI x1), some (vI x2), some (vI x3), some (vI x4)], [vI z, vR (some (22, 0, as0))], (I1, S1)) r) : Ev (d + 1) mX12_sends (36, [some (vR (some (22, 0, a0))), some (vI x1), some (vI x2), some (vI x3), some (vI x4)], [vR (some (22, 0, as0))], (I, S)) r :=
  s_iload rfl rfl rfl <|
  s_iconst rfl rfl <|
  s_bipush rfl rfl <|
  s_csI rfl rfl rfl rfl rfl rfl c k
theorem b_X12_sends_44 {d : Nat} {r : PO × PM} {I : Nat → Nat → Int} {S : PS} {a0 as0 : Nat} {x1 x2 x3 x4 xs1 : Int} (kt : xs1 = 0 → Ev d mX12_sends (51, [some (vR (some (22, 0, a0))), some (vI x1), some (vI x2), some (vI x3), some (vI x4)], [vR (some (22, 0, as0))], (I, S)) r) (kf : xs1 ≠ 0 → Ev d mX12_sends (47, [some (vR (some (22, 0, a0))), some (vI x1), some (vI x2), some (vI x3), some (vI x4)], [vR (some (22, 0, as0))], (I, S)) r) : Ev d mX12_sends (44, [some (vR (some (22, 0, a0))), some (vI x1), some (vI x2), some (vI x3), some (vI x4)], [vI xs1, vR (some (22, 0, as0))], (I, S)) r :=
  s_if_eq 51 rfl rfl kt kf
theorem b_X12_sends_47 {d : Nat} {r : PO × PM} {I : Nat → Nat → Int} {S : PS} {a0 as0 : Nat} {x1 x2 x3 x4 : Int} (k : Ev d mX12_sends (52, [some (vR (some (22, 0, a0))), some (vI x1), some (vI x2), some (vI x3), some (vI x4)], [vI 1, vR (some (22, 0, as0))], (I, S)) r) : Ev d mX12_sends (47, [some (vR (some (22, 0, a0))), some (vI x1), some (vI x2), some (vI x3), some (vI x4)], [vR (some (22, 0, as0))], (I, S)) r :=
  s_iconst rfl rfl <|
  s_goto 52 rfl rfl k
theorem b_X12_sends_51 {d : Nat} {r : PO × PM} {I : Nat → Nat → Int} {S : PS} {a0 as0 : Nat} {x1 x2 x3 x4 : Int} (k : Ev d mX12_sends (52, [some (vR (some (22, 0, a0))), some (vI x1), some (vI x2), some (vI x3), some (vI x4)], [vI 0, vR (some (22, 0, as0))], (I, S)) r) : Ev d mX12_sends (51, [some (vR (some (22, 0, a0))), some (vI x1), some (vI x2), some (vI x3), some (vI x4)], [vR (some (22, 0, as0))], (I, S)) r :=
  s_iconst rfl rfl <|
  k
theorem b_X12_sends_52 {d : Nat} {r : PO × PM} {I : Nat → Nat → Int} {S : PS} {a0 as0 : Nat} {x1 x2 x3 x4 xs1 z : Int} {I1 : Nat → Nat → Int} {S1 : PS} (c : Ca d mX12_right [vR (some (22, 0, as0)), vI xs1, vI 1] (I, S) (.inl (some (vI z))) (I1, S1)) (k : Ev (d + 1) mX12_sends (56, [some (vR (some (22, 0, a0))), some (vI x1), some (vI x2), some (vI x3), some (vI x4)], [vI z], (I1, S1)) r) : Ev (d + 1) mX12_sends (52, [some (vR (some (22, 0, a0))), some (vI x1), some (vI x2), some (vI x3), some (vI x4)], [vI xs1, vR (some (22, 0, as0))], (I, S)) r :=
  s_iconst rfl rfl <|
  s_cvI rfl rfl rfl rfl rfl c k
theorem b_X12_sends_56 {d : Nat} {r : PO × PM} {I : Nat → Nat → Int} {S : PS} {a0 : Nat} {x1 x2 x3 x4 xs0 : Int} (kt : xs0 ≠ 0 → Ev d mX12_sends (61, [some (vR (some (22, 0, a0))), some (vI x1), some (vI x2), some (vI x3), some (vI x4)], [], (I, S)) r) (kf : xs0 = 0 → Ev d mX12_sends (59, [some (vR (some (22, 0, a0))), some (vI x1), some (vI x2), some (vI x3), some (vI x4)], [], (I, S)) r) : Ev d mX12_sends (56, [some (vR (some (22, 0, a0))), some (vI x1), some (vI x2), some (vI x3), some (vI x4)], [vI xs0], (I, S)) r :=
  s_if_ne 61 rfl rfl kt kf
theorem b_X12_sends_59 {d : Nat} {I : Nat → Nat → Int} {S : PS} {a0 : Nat} {x1 x2 x3 x4 : Int} : Ev d mX12_sends (59, [some (vR (some (22, 0, a0))), some (vI x1), some (vI x2), some (vI x3), some (vI x4)], [], (I, S)) (.inl (some (vI 0)), (I, S)) :=
  s_iconst rfl rfl <|
  s_ret rfl rfl
theorem b_X12_sends_61 {d : Nat} {r : PO × PM} {I : Nat → Nat → Int} {S : PS} {a0 : Nat} {x1 x2 x3 x4 z : Int} {I1 : Nat → Nat → Int} {S1 : PS} (c : Ca d mX12_sends0 [vR (some (22, 0, a0)), vI 0, vI x1, vI x2, vI x3, vI x4] (I, S) (.inl (some (vI z))) (I1, S1)) (k : Ev (d + 1) mX12_sends (71, [some (vR (some (22, 0, a0))), some (vI x1), some (vI x2), some (vI x3), some (vI x4)], [vI z], (I1, S1)) r) : Ev (d + 1) mX12_sends (61, [some (vR (some (22, 0, a0))), some (vI x1), some (vI x2), some (vI x3), some (vI x4)], [], (I, S)) r :=
  s_aload_n rfl rfl rfl <|
  s_iconst rfl rfl <|
  s_iload_n rfl rfl rfl <|
  s_iload_n rfl rfl rfl <|
  s_iload_n rfl rfl rfl <|
  s_iload rfl rfl rfl <|
  s_cvI rfl rfl rfl rfl rfl c k
theorem b_X12_sends_71 {d : Nat} {I : Nat → Nat → Int} {S : PS} {a0 : Nat} {x1 x2 x3 x4 xs0 : Int} : Ev d mX12_sends (71, [some (vR (some (22, 0, a0))), some (vI x1), some (vI x2), some (vI x3), some (vI x4)], [vI xs0], (I, S)) (.inl (some (vI xs0)), (I, S)) :=
  s_ret rfl rfl
theorem b_X12_chargeBy_0 {d : Nat} {r : PO × PM} {I : Nat → Nat → Int} {S : PS} {a0 : Nat} {x1 x2 : Int} (ho1 : -2147483648 ≤ 6 - x2 ∧ 6 - x2 ≤ 2147483647) (ho2 : -2147483648 ≤ 10 * (6 - x2) ∧ 10 * (6 - x2) ≤ 2147483647) (k : Ev d mX12_chargeBy (11, [some (vR (some (22, 0, a0))), some (vI x1), some (vI x2), some (vI (10 * (6 - x2))), some (vI 0), none, none], [], (I, S)) r) : Ev d mX12_chargeBy (0, [some (vR (some (22, 0, a0))), some (vI x1), some (vI x2), none, none, none, none], [], (I, S)) r :=
  s_bipush rfl rfl <|
  s_bipush rfl rfl <|
  s_iload_n rfl rfl rfl <|
  s_isubp rfl ho1 <|
  s_imulp rfl ho2 <|
  s_istore_n [some (vR (some (22, 0, a0))), some (vI x1), some (vI x2), some (vI (10 * (6 - x2))), none, none, none] rfl rfl <|
  s_iconst rfl rfl <|
  s_istore [some (vR (some (22, 0, a0))), some (vI x1), some (vI x2), some (vI (10 * (6 - x2))), some (vI 0), none, none] rfl rfl <|
  k
theorem b_X12_chargeBy_11 {d : Nat} {r : PO × PM} {I : Nat → Nat → Int} {S : PS} {a0 : Nat} {x1 x2 x3 x4 : Int} (kt : x2 ≤ x4 → Ev d mX12_chargeBy (89, [some (vR (some (22, 0, a0))), some (vI x1), some (vI x2), some (vI x3), some (vI x4), none, none], [], (I, S)) r) (kf : x4 < x2 → Ev d mX12_chargeBy (17, [some (vR (some (22, 0, a0))), some (vI x1), some (vI x2), some (vI x3), some (vI x4), none, none], [], (I, S)) r) : Ev d mX12_chargeBy (11, [some (vR (some (22, 0, a0))), some (vI x1), some (vI x2), some (vI x3), some (vI x4), none, none], [], (I, S)) r :=
  s_iload rfl rfl rfl <|
  s_iload_n rfl rfl rfl <|
  s_icmp_ge 89 rfl rfl kt kf
theorem b_X12_chargeBy_17 {d : Nat} {r : PO × PM} {I : Nat → Nat → Int} {S : PS} {a0 p1 q1 : Nat} {x1 x2 x3 x4 z : Int} {I1 : Nat → Nat → Int} {S1 : PS} (hr1 : S.1 a0 38 = some (0, q1, p1)) (ho2 : -2147483648 ≤ x4 + x2 ∧ x4 + x2 ≤ 2147483647) (ho3 : -2147483648 ≤ x4 + x2 - 1 ∧ x4 + x2 - 1 ≤ 2147483647) (hd4 : (0 ≤ x4 + x2 - 1 ∧ x4 + x2 - 1 ≤ 2147483647) ∧ 0 < x2 ∧ x2 ≤ 2147483647) (hi5 : 0 ≤ (x4 + x2 - 1) % x2 ∧ (x4 + x2 - 1) % x2 < (q1 : Nat)) (ho6 : -2147483648 ≤ x4 + 1 ∧ x4 + 1 ≤ 2147483647) (hd7 : (0 ≤ x4 + 1 ∧ x4 + 1 ≤ 2147483647) ∧ 0 < x2 ∧ x2 ≤ 2147483647) (hi8 : 0 ≤ (x4 + 1) % x2 ∧ (x4 + 1) % x2 < (q1 : Nat)) (hi9 : 0 ≤ x4 ∧ x4 < (q1 : Nat)) (c : Ca d mX12_sends0 [vR (some (22, 0, a0)), vI x1, vI (I p1 x4.toNat), vI x2, vI (I p1 ((x4 + x2 - 1) % x2).toNat), vI (I p1 ((x4 + 1) % x2).toNat)] (I, S) (.inl (some (vI z))) (I1, S1)) (k : Ev (d + 1) mX12_chargeBy (63, [some (vR (some (22, 0, a0))), some (vI x1), some (vI x2), some (vI x3), some (vI x4), some (vI (I p1 ((x4 + x2 - 1) % x2).toNat)), some (vI (I p1 ((x4 + 1) % x2).toNat))], [vI z, vI x3], (I1, S1)) r) : Ev (d + 1) mX12_chargeBy (17, [some (vR (some (22, 0, a0))), some (vI x1), some (vI x2), some (vI x3), some (vI x4), none, none], [], (I, S)) r :=
  s_aload_n rfl rfl rfl <|
  s_getR rfl rfl rfl hr1 <|
  s_iload rfl rfl rfl <|
  s_iload_n rfl rfl rfl <|
  s_iaddp rfl ho2 <|
  s_iconst rfl rfl <|
  s_isubp rfl ho3 <|
  s_iload_n rfl rfl rfl <|
  s_iremp rfl hd4 <|
  s_iald rfl rfl hi5 <|
  s_istore [some (vR (some (22, 0, a0))), some (vI x1), some (vI x2), some (vI x3), some (vI x4), some (vI (I p1 ((x4 + x2 - 1) % x2).toNat)), none] rfl rfl <|
  s_aload_n rfl rfl rfl <|
  s_getR rfl rfl rfl hr1 <|
  s_iload rfl rfl rfl <|
  s_iconst rfl rfl <|
  s_iaddp rfl ho6 <|
  s_iload_n rfl rfl rfl <|
  s_iremp rfl hd7 <|
  s_iald rfl rfl hi8 <|
  s_istore [some (vR (some (22, 0, a0))), some (vI x1), some (vI x2), some (vI x3), some (vI x4), some (vI (I p1 ((x4 + x2 - 1) % x2).toNat)), some (vI (I p1 ((x4 + 1) % x2).toNat))] rfl rfl <|
  s_iload_n rfl rfl rfl <|
  s_aload_n rfl rfl rfl <|
  s_iload_n rfl rfl rfl <|
  s_aload_n rfl rfl rfl <|
  s_getR rfl rfl rfl hr1 <|
  s_iload rfl rfl rfl <|
  s_iald rfl rfl hi9 <|
  s_iload_n rfl rfl rfl <|
  s_iload rfl rfl rfl <|
  s_iload rfl rfl rfl <|
  s_cvI rfl rfl rfl rfl rfl c k
theorem b_X12_chargeBy_63 {d : Nat} {r : PO × PM} {I : Nat → Nat → Int} {S : PS} {a0 p1 q1 : Nat} {x1 x2 x3 x4 x5 x6 xs0 xs1 z : Int} {I1 : Nat → Nat → Int} {S1 : PS} (hr1 : S.1 a0 38 = some (0, q1, p1)) (hi2 : 0 ≤ x4 ∧ x4 < (q1 : Nat)) (c : Ca d mX12_sends0 [vR (some (22, 0, a0)), vI x1, vI x2, vI (I p1 x4.toNat), vI x5, vI x6] (I, S) (.inl (some (vI z))) (I1, S1)) (k : Ev (d + 1) mX12_chargeBy (80, [some (vR (some (22, 0, a0))), some (vI x1), some (vI x2), some (vI x3), some (vI x4), some (vI x5), some (vI x6)], [vI z, vI xs1, vI xs0], (I1, S1)) r) : Ev (d + 1) mX12_chargeBy (63, [some (vR (some (22, 0, a0))), some (vI x1), some (vI x2), some (vI x3), some (vI x4), some (vI x5), some (vI x6)], [vI xs1, vI xs0], (I, S)) r :=
  s_aload_n rfl rfl rfl <|
  s_iload_n rfl rfl rfl <|
  s_iload_n rfl rfl rfl <|
  s_aload_n rfl rfl rfl <|
  s_getR rfl rfl rfl hr1 <|
  s_iload rfl rfl rfl <|
  s_iald rfl rfl hi2 <|
  s_iload rfl rfl rfl <|
  s_iload rfl rfl rfl <|
  s_cvI rfl rfl rfl rfl rfl c k
theorem b_X12_chargeBy_80 {d : Nat} {r : PO × PM} {I : Nat → Nat → Int} {S : PS} {a0 : Nat} {x1 x2 x3 x4 x5 x6 xs0 xs1 xs2 : Int} (ho1 : -2147483648 ≤ xs1 - xs2 ∧ xs1 - xs2 ≤ 2147483647) (ho2 : -2147483648 ≤ xs0 + (xs1 - xs2) ∧ xs0 + (xs1 - xs2) ≤ 2147483647) (ho3 : -2147483648 ≤ x4 + 1 ∧ x4 + 1 ≤ 2147483647) (k : Ev d mX12_chargeBy (11, [some (vR (some (22, 0, a0))), some (vI x1), some (vI x2), some (vI (xs0 + (xs1 - xs2))), some (vI (x4 + 1)), none, none], [], (I, S)) r) : Ev d mX12_chargeBy (80, [some (vR (some (22, 0, a0))), some (vI x1), some (vI x2), some (vI x3), some (vI x4), some (vI x5), some (vI x6)], [vI xs2, vI xs1, vI xs0], (I, S)) r :=
  s_isubp rfl ho1 <|
  s_iaddp rfl ho2 <|
  s_istore_n [some (vR (some (22, 0, a0))), some (vI x1), some (vI x2), some (vI (xs0 + (xs1 - xs2))), some (vI x4), some (vI x5), some (vI x6)] rfl rfl <|
  s_iincp [some (vR (some (22, 0, a0))), some (vI x1), some (vI x2), some (vI (xs0 + (xs1 - xs2))), some (vI (x4 + 1)), some (vI x5), some (vI x6)] rfl rfl ho3 rfl <|
  s_goto 11 rfl rfl (ev_forget [false, false, false, false, false, true, true] rfl k)
theorem b_X12_chargeBy_89 {d : Nat} {I : Nat → Nat → Int} {S : PS} {a0 : Nat} {x1 x2 x3 x4 : Int} : Ev d mX12_chargeBy (89, [some (vR (some (22, 0, a0))), some (vI x1), some (vI x2), some (vI x3), some (vI x4), none, none], [], (I, S)) (.inl (some (vI x3)), (I, S)) :=
  s_iload_n rfl rfl rfl <|
  s_ret rfl rfl
theorem b_X12_doesHold_0 {d : Nat} {r : PO × PM} {I : Nat → Nat → Int} {S : PS} {a0 p1 q1 : Nat} {x1 x2 : Int} (hr1 : S.1 a0 19 = some (0, q1, p1)) (ho2 : -2147483648 ≤ 20 * x1 ∧ 20 * x1 ≤ 2147483647) (hi3 : 0 ≤ 20 * x1 ∧ 20 * x1 < (q1 : Nat)) (kt : I p1 (20 * x1).toNat = x2 → Ev d mX12_doesHold (15, [some (vR (some (22, 0, a0))), some (vI x1), some (vI x2), none, none, none, none, none, none], [], (I, S)) r) (kf : I p1 (20 * x1).toNat ≠ x2 → Ev d mX12_doesHold (13, [some (vR (some (22, 0, a0))), some (vI x1), some (vI x2), none, none, none, none, none, none], [], (I, S)) r) : Ev d mX12_doesHold (0, [some (vR (some (22, 0, a0))), some (vI x1), some (vI x2), none, none, none, none, none, none], [], (I, S)) r :=
  s_aload_n rfl rfl rfl <|
  s_getR rfl rfl rfl hr1 <|
  s_bipush rfl rfl <|
  s_iload_n rfl rfl rfl <|
  s_imulp rfl ho2 <|
  s_iald rfl rfl hi3 <|
  s_iload_n rfl rfl rfl <|
  s_icmp_eq 15 rfl rfl kt kf
theorem b_X12_doesHold_13 {d : Nat} {I : Nat → Nat → Int} {S : PS} {a0 : Nat} {x1 x2 : Int} : Ev d mX12_doesHold (13, [some (vR (some (22, 0, a0))), some (vI x1), some (vI x2), none, none, none, none, none, none], [], (I, S)) (.inl (some (vI 0)), (I, S)) :=
  s_iconst rfl rfl <|
  s_ret rfl rfl
theorem b_X12_doesHold_15 {d : Nat} {r : PO × PM} {I : Nat → Nat → Int} {S : PS} {a0 p1 q1 : Nat} {x1 x2 : Int} (hr1 : S.1 a0 19 = some (0, q1, p1)) (ho2 : -2147483648 ≤ 20 * x1 ∧ 20 * x1 ≤ 2147483647) (ho3 : -2147483648 ≤ (20 * x1) + 1 ∧ (20 * x1) + 1 ≤ 2147483647) (hi4 : 0 ≤ (20 * x1) + 1 ∧ (20 * x1) + 1 < (q1 : Nat)) (k : Ev d mX12_doesHold (30, [some (vR (some (22, 0, a0))), some (vI x1), some (vI x2), some (vI (I p1 ((20 * x1) + 1).toNat)), some (vI 0), none, none, none, none], [], (I, S)) r) : Ev d mX12_doesHold (15, [some (vR (some (22, 0, a0))), some (vI x1), some (vI x2), none, none, none, none, none, none], [], (I, S)) r :=
  s_aload_n rfl rfl rfl <|
  s_getR rfl rfl rfl hr1 <|
  s_bipush rfl rfl <|
  s_iload_n rfl rfl rfl <|
  s_imulp rfl ho2 <|
  s_iconst rfl rfl <|
  s_iaddp rfl ho3 <|
  s_iald rfl rfl hi4 <|
  s_istore_n [some (vR (some (22, 0, a0))), some (vI x1), some (vI x2), some (vI (I p1 ((20 * x1) + 1).toNat)), none, none, none, none, none] rfl rfl <|
  s_iconst rfl rfl <|
  s_istore [some (vR (some (22, 0, a0))), some (vI x1), some (vI x2), some (vI (I p1 ((20 * x1) + 1).toNat)), some (vI 0), none, none, none, none] rfl rfl <|
  k
theorem b_X12_doesHold_30 {d : Nat} {r : PO × PM} {I : Nat → Nat → Int} {S : PS} {a0 : Nat} {x1 x2 x3 x4 : Int} (kt : x2 ≤ x4 → Ev d mX12_doesHold (151, [some (vR (some (22, 0, a0))), some (vI x1), some (vI x2), some (vI x3), some (vI x4), none, none, none, none], [], (I, S)) r) (kf : x4 < x2 → Ev d mX12_doesHold (36, [some (vR (some (22, 0, a0))), some (vI x1), some (vI x2), some (vI x3), some (vI x4), none, none, none, none], [], (I, S)) r) : Ev d mX12_doesHold (30, [some (vR (some (22, 0, a0))), some (vI x1), some (vI x2), some (vI x3), some (vI x4), none, none, none, none], [], (I, S)) r :=
  s_iload rfl rfl rfl <|
  s_iload_n rfl rfl rfl <|
  s_icmp_ge 151 rfl rfl kt kf
theorem b_X12_doesHold_36 {d : Nat} {r : PO × PM} {I : Nat → Nat → Int} {S : PS} {a0 : Nat} {x1 x2 x3 x4 : Int} (k : Ev d mX12_doesHold (45, [some (vR (some (22, 0, a0))), some (vI x1), some (vI x2), some (vI x3), some (vI x4), some (vI 1), some (vI 1), some (vI 0), none], [], (I, S)) r) : Ev d mX12_doesHold (36, [some (vR (some (22, 0, a0))), some (vI x1), some (vI x2), some (vI x3), some (vI x4), none, none, none, none], [], (I, S)) r :=
  s_iconst rfl rfl <|
  s_istore [some (vR (some (22, 0, a0))), some (vI x1), some (vI x2), some (vI x3), some (vI x4), some (vI 1), none, none, none] rfl rfl <|
  s_iconst rfl rfl <|
  s_istore [some (vR (some (22, 0, a0))), some (vI x1), some (vI x2), some (vI x3), some (vI x4), some (vI 1), some (vI 1), none, none] rfl rfl <|
  s_iconst rfl rfl <|
  s_istore [some (vR (some (22, 0, a0))), some (vI x1), some (vI x2), some (vI x3), some (vI x4), some (vI 1), some (vI 1), some (vI 0), none] rfl rfl <|
  k
theorem b_X12_doesHold_45 {d : Nat} {r : PO × PM} {I : Nat → Nat → Int} {S : PS} {a0 : Nat} {x1 x2 x3 x4 x5 x6 x7 : Int} (kt : x3 ≤ x7 → Ev d mX12_doesHold (133, [some (vR (some (22, 0, a0))), some (vI x1), some (vI x2), some (vI x3), some (vI x4), some (vI x5), some (vI x6), some (vI x7), none], [], (I, S)) r) (kf : x7 < x3 → Ev d mX12_doesHold (51, [some (vR (some (22, 0, a0))), some (vI x1), some (vI x2), some (vI x3), some (vI x4), some (vI x5), some (vI x6), some (vI x7), none], [], (I, S)) r) : Ev d mX12_doesHold (45, [some (vR (some (22, 0, a0))), some (vI x1), some (vI x2), some (vI x3), some (vI x4), some (vI x5), some (vI x6), some (vI x7), none], [], (I, S)) r :=
  s_iload rfl rfl rfl <|
  s_iload_n rfl rfl rfl <|
  s_icmp_ge 133 rfl rfl kt kf
theorem b_X12_doesHold_51 {d : Nat} {r : PO × PM} {I : Nat → Nat → Int} {S : PS} {a0 p1 q1 : Nat} {x1 x2 x3 x4 x5 x6 x7 : Int} (hr1 : S.1 a0 19 = some (0, q1, p1)) (ho2 : -2147483648 ≤ 20 * x1 ∧ 20 * x1 ≤ 2147483647) (ho3 : -2147483648 ≤ (20 * x1) + 2 ∧ (20 * x1) + 2 ≤ 2147483647) (ho4 : -2147483648 ≤ ((20 * x1) + 2) + x7 ∧ ((20 * x1) + 2) + x7 ≤ 2147483647) (hi5 : 0 ≤ ((20 * x1) + 2) + x7 ∧ ((20 * x1) + 2) + x7 < (q1 : Nat)) (kt : x5 = 0 → Ev d mX12_doesHold (93, [some (vR (some (22, 0, a0))), some (vI x1), some (vI x2), some (vI x3), some (vI x4), some (vI x5), some (vI x6), some (vI x7), some (vI (I p1 (((20 * x1) + 2) + x7).toNat))], [], (I, S)) r) (kf : x5 ≠ 0 → Ev d mX12_doesHold (72, [some (vR (some (22, 0, a0))), some (vI x1), some (vI x2), some (vI x3), some (vI x4), some (vI x5), some (vI x6), some (vI x7), some (vI (I p1 (((20 * x1) + 2) + x7).toNat))], [], (I, S)) r) : Ev d mX12_doesHold (51, [some (vR (some (22, 0, a0))), some (vI x1), some (vI x2), some (vI x3), some (vI x4), some (vI x5), some (vI x6), some (vI x7), none], [], (I, S)) r :=
  s_aload_n rfl rfl rfl <|
  s_getR rfl rfl rfl hr1 <|
  s_bipush rfl rfl <|
  s_iload_n rfl rfl rfl <|
  s_imulp rfl ho2 <|
  s_iconst rfl rfl <|
  s_iaddp rfl ho3 <|
  s_iload rfl rfl rfl <|
  s_iaddp rfl ho4 <|
  s_iald rfl rfl hi5 <|
  s_istore [some (vR (some (22, 0, a0))), some (vI x1), some (vI x2), some (vI x3), some (vI x4), some (vI x5), some (vI x6), some (vI x7), some (vI (I p1 (((20 * x1) + 2) + x7).toNat))] rfl rfl <|
  s_iload rfl rfl rfl <|
  s_if_eq 93 rfl rfl kt kf
theorem b_X12_doesHold_72 {d : Nat} {r : PO × PM} {I : Nat → Nat → Int} {S : PS} {a0 p1 q1 : Nat} {x1 x2 x3 x4 x5 x6 x7 x8 : Int} (hr1 : S.1 a0 38 = some (0, q1, p1)) (ho2 : -2147483648 ≤ x4 + x7 ∧ x4 + x7 ≤ 2147483647) (hd3 : (0 ≤ x4 + x7 ∧ x4 + x7 ≤ 2147483647) ∧ 0 < x2 ∧ x2 ≤ 2147483647) (hi4 : 0 ≤ (x4 + x7) % x2 ∧ (x4 + x7) % x2 < (q1 : Nat)) (kt : I p1 ((x4 + x7) % x2).toNat ≠ x8 → Ev d mX12_doesHold (93, [some (vR (some (22, 0, a0))), some (vI x1), some (vI x2), some (vI x3), some (vI x4), some (vI x5), some (vI x6), some (vI x7), some (vI x8)], [], (I, S)) r) (kf : I p1 ((x4 + x7) % x2).toNat = x8 → Ev d mX12_doesHold (89, [some (vR (some (22, 0, a0))), some (vI x1), some (vI x2), some (vI x3), some (vI x4), some (vI x5), some (vI x6), some (vI x7), some (vI x8)], [], (I, S)) r) : Ev d mX12_doesHold (72, [some (vR (some (22, 0, a0))), some (vI x1), some (vI x2), some (vI x3), some (vI x4), some (vI x5), some (vI x6), some (vI x7), some (vI x8)], [], (I, S)) r :=
  s_aload_n rfl rfl rfl <|
  s_getR rfl rfl rfl hr1 <|
  s_iload rfl rfl rfl <|
  s_iload rfl rfl rfl <|
  s_iaddp rfl ho2 <|
  s_iload_n rfl rfl rfl <|
  s_iremp rfl hd3 <|
  s_iald rfl rfl hi4 <|
  s_iload rfl rfl rfl <|
  s_icmp_ne 93 rfl rfl kt kf
theorem b_X12_doesHold_89 {d : Nat} {r : PO × PM} {I : Nat → Nat → Int} {S : PS} {a0 : Nat} {x1 x2 x3 x4 x5 x6 x7 x8 : Int} (k : Ev d mX12_doesHold (94, [some (vR (some (22, 0, a0))), some (vI x1), some (vI x2), some (vI x3), some (vI x4), some (vI x5), some (vI x6), some (vI x7), some (vI x8)], [vI 1], (I, S)) r) : Ev d mX12_doesHold (89, [some (vR (some (22, 0, a0))), some (vI x1), some (vI x2), some (vI x3), some (vI x4), some (vI x5), some (vI x6), some (vI x7), some (vI x8)], [], (I, S)) r :=
  s_iconst rfl rfl <|
  s_goto 94 rfl rfl k
theorem b_X12_doesHold_93 {d : Nat} {r : PO × PM} {I : Nat → Nat → Int} {S : PS} {a0 : Nat} {x1 x2 x3 x4 x5 x6 x7 x8 : Int} (k : Ev d mX12_doesHold (94, [some (vR (some (22, 0, a0))), some (vI x1), some (vI x2), some (vI x3), some (vI x4), some (vI x5), some (vI x6), some (vI x7), some (vI x8)], [vI 0], (I, S)) r) : Ev d mX12_doesHold (93, [some (vR (some (22, 0, a0))), some (vI x1), some (vI x2), some (vI x3), some (vI x4), some (vI x5), some (vI x6), some (vI x7), some (vI x8)], [], (I, S)) r :=
  s_iconst rfl rfl <|
  k
theorem b_X12_doesHold_94 {d : Nat} {r : PO × PM} {I : Nat → Nat → Int} {S : PS} {a0 : Nat} {x1 x2 x3 x4 x5 x6 x7 x8 xs0 : Int} (kt : x6 = 0 → Ev d mX12_doesHold (124, [some (vR (some (22, 0, a0))), some (vI x1), some (vI x2), some (vI x3), some (vI x4), some (vI xs0), some (vI x6), some (vI x7), some (vI x8)], [], (I, S)) r) (kf : x6 ≠ 0 → Ev d mX12_doesHold (101, [some (vR (some (22, 0, a0))), some (vI x1), some (vI x2), some (vI x3), some (vI x4), some (vI xs0), some (vI x6), some (vI x7), some (vI x8)], [], (I, S)) r) : Ev d mX12_doesHold (94, [some (vR (some (22, 0, a0))), some (vI x1), some (vI x2), some (vI x3), some (vI x4), some (vI x5), some (vI x6), some (vI x7), some (vI x8)], [vI xs0], (I, S)) r :=
  s_istore [some (vR (some (22, 0, a0))), some (vI x1), some (vI x2), some (vI x3), some (vI x4), some (vI xs0), some (vI x6), some (vI x7), some (vI x8)] rfl rfl <|
  s_iload rfl rfl rfl <|
  s_if_eq 124 rfl rfl kt kf
theorem b_X12_doesHold_101 {d : Nat} {r : PO × PM} {I : Nat → Nat → Int} {S : PS} {a0 p1 q1 : Nat} {x1 x2 x3 x4 x5 x6 x7 x8 : Int} (hr1 : S.1 a0 38 = some (0, q1, p1)) (ho2 : -2147483648 ≤ x4 + x2 ∧ x4 + x2 ≤ 2147483647) (ho3 : -2147483648 ≤ x4 + x2 - x7 ∧ x4 + x2 - x7 ≤ 2147483647) (hd4 : (0 ≤ x4 + x2 - x7 ∧ x4 + x2 - x7 ≤ 2147483647) ∧ 0 < x2 ∧ x2 ≤ 2147483647) (hi5 : 0 ≤ (x4 + x2 - x7) % x2 ∧ (x4 + x2 - x7) % x2 < (q1 : Nat)) (kt : I p1 ((x4 + x2 - x7) % x2).toNat ≠ x8 → Ev d mX12_doesHold (124, [some (vR (some (22, 0, a0))), some (vI x1), some (vI x2), some (vI x3), some (vI x4), some (vI x5), some (vI x6), some (vI x7), some (vI x8)], [], (I, S)) r) (kf : I p1 ((x4 + x2 - x7) % x2).toNat = x8 → Ev d mX12_doesHold (120, [some (vR (some (22, 0, a0))), some (vI x1), some (vI x2), some (vI x3), some (vI x4), some (vI x5), some (vI x6), some (vI x7), some (vI x8)], [], (I, S)) r) : Ev d mX12_doesHold (101, [some (vR (some (22, 0, a0))), some (vI x1), some (vI x2), some (vI x3), some (vI x4), some (vI x5), some (vI x6), some (vI x7), some (vI x8)], [], (I, S)) r :=
  s_aload_n rfl rfl rfl <|
  s_getR rfl rfl rfl hr1 <|
  s_iload rfl rfl rfl <|
  s_iload_n rfl rfl rfl <|
  s_iaddp rfl ho2 <|
  s_iload rfl rfl rfl <|
  s_isubp rfl ho3 <|
  s_iload_n rfl rfl rfl <|
  s_iremp rfl hd4 <|
  s_iald rfl rfl hi5 <|
  s_iload rfl rfl rfl <|
  s_icmp_ne 124 rfl rfl kt kf
theorem b_X12_doesHold_120 {d : Nat} {r : PO × PM} {I : Nat → Nat → Int} {S : PS} {a0 : Nat} {x1 x2 x3 x4 x5 x6 x7 x8 : Int} (k : Ev d mX12_doesHold (125, [some (vR (some (22, 0, a0))), some (vI x1), some (vI x2), some (vI x3), some (vI x4), some (vI x5), some (vI x6), some (vI x7), some (vI x8)], [vI 1], (I, S)) r) : Ev d mX12_doesHold (120, [some (vR (some (22, 0, a0))), some (vI x1), some (vI x2), some (vI x3), some (vI x4), some (vI x5), some (vI x6), some (vI x7), some (vI x8)], [], (I, S)) r :=
  s_iconst rfl rfl <|
  s_goto 125 rfl rfl k
theorem b_X12_doesHold_124 {d : Nat} {r : PO × PM} {I : Nat → Nat → Int} {S : PS} {a0 : Nat} {x1 x2 x3 x4 x5 x6 x7 x8 : Int} (k : Ev d mX12_doesHold (125, [some (vR (some (22, 0, a0))), some (vI x1), some (vI x2), some (vI x3), some (vI x4), some (vI x5), some (vI x6), some (vI x7), some (vI x8)], [vI 0], (I, S)) r) : Ev d mX12_doesHold (124, [some (vR (some (22, 0, a0))), some (vI x1), some (vI x2), some (vI x3), some (vI x4), some (vI x5), some (vI x6), some (vI x7), some (vI x8)], [], (I, S)) r :=
  s_iconst rfl rfl <|
  k
theorem b_X12_doesHold_125 {d : Nat} {r : PO × PM} {I : Nat → Nat → Int} {S : PS} {a0 : Nat} {x1 x2 x3 x4 x5 x6 x7 x8 xs0 : Int} (ho1 : -2147483648 ≤ x7 + 1 ∧ x7 + 1 ≤ 2147483647) (k : Ev d mX12_doesHold (45, [some (vR (some (22, 0, a0))), some (vI x1), some (vI x2), some (vI x3), some (vI x4), some (vI x5), some (vI xs0), some (vI (x7 + 1)), none], [], (I, S)) r) : Ev d mX12_doesHold (125, [some (vR (some (22, 0, a0))), some (vI x1), some (vI x2), some (vI x3), some (vI x4), some (vI x5), some (vI x6), some (vI x7), some (vI x8)], [vI xs0], (I, S)) r :=
  s_istore [some (vR (some (22, 0, a0))), some (vI x1), some (vI x2), some (vI x3), some (vI x4), some (vI x5), some (vI xs0), some (vI x7), some (vI x8)] rfl rfl <|
  s_iincp [some (vR (some (22, 0, a0))), some (vI x1), some (vI x2), some (vI x3), some (vI x4), some (vI x5), some (vI xs0), some (vI (x7 + 1)), some (vI x8)] rfl rfl ho1 rfl <|
  s_goto 45 rfl rfl (ev_forget [false, false, false, false, false, false, false, false, true] rfl k)
theorem b_X12_doesHold_133 {d : Nat} {r : PO × PM} {I : Nat → Nat → Int} {S : PS} {a0 : Nat} {x1 x2 x3 x4 x5 x6 x7 : Int} (kt : x5 ≠ 0 → Ev d mX12_doesHold (143, [some (vR (some (22, 0, a0))), some (vI x1), some (vI x2), some (vI x3), some (vI x4), some (vI x5), some (vI x6), some (vI x7), none], [], (I, S)) r) (kf : x5 = 0 → Ev d mX12_doesHold (138, [some (vR (some (22, 0, a0))), some (vI x1), some (vI x2), some (vI x3), some (vI x4), some (vI x5), some (vI x6), some (vI x7), none], [], (I, S)) r) : Ev d mX12_doesHold (133, [some (vR (some (22, 0, a0))), some (vI x1), some (vI x2), some (vI x3), some (vI x4), some (vI x5), some (vI x6), some (vI x7), none], [], (I, S)) r :=
  s_iload rfl rfl rfl <|
  s_if_ne 143 rfl rfl kt kf
theorem b_X12_doesHold_138 {d : Nat} {r : PO × PM} {I : Nat → Nat → Int} {S : PS} {a0 : Nat} {x1 x2 x3 x4 x5 x6 x7 : Int} (kt : x6 = 0 → Ev d mX12_doesHold (145, [some (vR (some (22, 0, a0))), some (vI x1), some (vI x2), some (vI x3), some (vI x4), some (vI x5), some (vI x6), some (vI x7), none], [], (I, S)) r) (kf : x6 ≠ 0 → Ev d mX12_doesHold (143, [some (vR (some (22, 0, a0))), some (vI x1), some (vI x2), some (vI x3), some (vI x4), some (vI x5), some (vI x6), some (vI x7), none], [], (I, S)) r) : Ev d mX12_doesHold (138, [some (vR (some (22, 0, a0))), some (vI x1), some (vI x2), some (vI x3), some (vI x4), some (vI x5), some (vI x6), some (vI x7), none], [], (I, S)) r :=
  s_iload rfl rfl rfl <|
  s_if_eq 145 rfl rfl kt kf
theorem b_X12_doesHold_143 {d : Nat} {I : Nat → Nat → Int} {S : PS} {a0 : Nat} {x1 x2 x3 x4 x5 x6 x7 : Int} : Ev d mX12_doesHold (143, [some (vR (some (22, 0, a0))), some (vI x1), some (vI x2), some (vI x3), some (vI x4), some (vI x5), some (vI x6), some (vI x7), none], [], (I, S)) (.inl (some (vI 1)), (I, S)) :=
  s_iconst rfl rfl <|
  s_ret rfl rfl
theorem b_X12_doesHold_145 {d : Nat} {r : PO × PM} {I : Nat → Nat → Int} {S : PS} {a0 : Nat} {x1 x2 x3 x4 x5 x6 x7 : Int} (ho1 : -2147483648 ≤ x4 + 1 ∧ x4 + 1 ≤ 2147483647) (k : Ev d mX12_doesHold (30, [some (vR (some (22, 0, a0))), some (vI x1), some (vI x2), some (vI x3), some (vI (x4 + 1)), none, none, none, none], [], (I, S)) r) : Ev d mX12_doesHold (145, [some (vR (some (22, 0, a0))), some (vI x1), some (vI x2), some (vI x3), some (vI x4), some (vI x5), some (vI x6), some (vI x7), none], [], (I, S)) r :=
  s_iincp [some (vR (some (22, 0, a0))), some (vI x1), some (vI x2), some (vI x3), some (vI (x4 + 1)), some (vI x5), some (vI x6), some (vI x7), none] rfl rfl ho1 rfl <|
  s_goto 30 rfl rfl (ev_forget [false, false, false, false, false, true, true, true, false] rfl k)
theorem b_X12_doesHold_151 {d : Nat} {I : Nat → Nat → Int} {S : PS} {a0 : Nat} {x1 x2 x3 x4 : Int} : Ev d mX12_doesHold (151, [some (vR (some (22, 0, a0))), some (vI x1), some (vI x2), some (vI x3), some (vI x4), none, none, none, none], [], (I, S)) (.inl (some (vI 0)), (I, S)) :=
  s_iconst rfl rfl <|
  s_ret rfl rfl
theorem b_X12_holds_0 {d : Nat} {r : PO × PM} {I : Nat → Nat → Int} {S : PS} {a0 : Nat} {x1 : Int} (k : Ev d mX12_holds (4, [some (vR (some (22, 0, a0))), some (vI x1), some (vI 0), some (vI 0)], [], (I, S)) r) : Ev d mX12_holds (0, [some (vR (some (22, 0, a0))), some (vI x1), none, none], [], (I, S)) r :=
  s_iconst rfl rfl <|
  s_istore_n [some (vR (some (22, 0, a0))), some (vI x1), some (vI 0), none] rfl rfl <|
  s_iconst rfl rfl <|
  s_istore_n [some (vR (some (22, 0, a0))), some (vI x1), some (vI 0), some (vI 0)] rfl rfl <|
  k
theorem b_X12_holds_4 {d : Nat} {r : PO × PM} {I : Nat → Nat → Int} {S : PS} {a0 : Nat} {x1 x2 x3 : Int} (kt : I a0 13 ≤ x3 → Ev d mX12_holds (37, [some (vR (some (22, 0, a0))), some (vI x1), some (vI x2), some (vI x3)], [], (I, S)) r) (kf : x3 < I a0 13 → Ev d mX12_holds (12, [some (vR (some (22, 0, a0))), some (vI x1), some (vI x2), some (vI x3)], [], (I, S)) r) : Ev d mX12_holds (4, [some (vR (some (22, 0, a0))), some (vI x1), some (vI x2), some (vI x3)], [], (I, S)) r :=
  s_iload_n rfl rfl rfl <|
  s_aload_n rfl rfl rfl <|
  s_getI rfl rfl rfl <|
  s_icmp_ge 37 rfl rfl kt kf
theorem b_X12_holds_12 {d : Nat} {r : PO × PM} {I : Nat → Nat → Int} {S : PS} {a0 : Nat} {x1 x2 x3 z : Int} {I1 : Nat → Nat → Int} {S1 : PS} (c : Ca d mX12_doesHold [vR (some (22, 0, a0)), vI x3, vI x1] (I, S) (.inl (some (vI z))) (I1, S1)) (k : Ev (d + 1) mX12_holds (19, [some (vR (some (22, 0, a0))), some (vI x1), some (vI x2), some (vI x3)], [vI z, vI x2], (I1, S1)) r) : Ev (d + 1) mX12_holds (12, [some (vR (some (22, 0, a0))), some (vI x1), some (vI x2), some (vI x3)], [], (I, S)) r :=
  s_iload_n rfl rfl rfl <|
  s_aload_n rfl rfl rfl <|
  s_iload_n rfl rfl rfl <|
  s_iload_n rfl rfl rfl <|
  s_cvI rfl rfl rfl rfl rfl c k
theorem b_X12_holds_19 {d : Nat} {r : PO × PM} {I : Nat → Nat → Int} {S : PS} {a0 : Nat} {x1 x2 x3 xs0 xs1 : Int} (kt : xs1 = 0 → Ev d mX12_holds (28, [some (vR (some (22, 0, a0))), some (vI x1), some (vI x2), some (vI x3)], [vI xs0], (I, S)) r) (kf : xs1 ≠ 0 → Ev d mX12_holds (22, [some (vR (some (22, 0, a0))), some (vI x1), some (vI x2), some (vI x3)], [vI xs0], (I, S)) r) : Ev d mX12_holds (19, [some (vR (some (22, 0, a0))), some (vI x1), some (vI x2), some (vI x3)], [vI xs1, vI xs0], (I, S)) r :=
  s_if_eq 28 rfl rfl kt kf
theorem b_X12_holds_22 {d : Nat} {r : PO × PM} {I : Nat → Nat → Int} {S : PS} {a0 : Nat} {x1 x2 x3 xs0 : Int} (k : Ev d mX12_holds (29, [some (vR (some (22, 0, a0))), some (vI x1), some (vI x2), some (vI x3)], [vI (p_shl 1 x3), vI xs0], (I, S)) r) : Ev d mX12_holds (22, [some (vR (some (22, 0, a0))), some (vI x1), some (vI x2), some (vI x3)], [vI xs0], (I, S)) r :=
  s_iconst rfl rfl <|
  s_iload_n rfl rfl rfl <|
  s_ishl rfl <|
  s_goto 29 rfl rfl k
theorem b_X12_holds_28 {d : Nat} {r : PO × PM} {I : Nat → Nat → Int} {S : PS} {a0 : Nat} {x1 x2 x3 xs0 : Int} (k : Ev d mX12_holds (29, [some (vR (some (22, 0, a0))), some (vI x1), some (vI x2), some (vI x3)], [vI 0, vI xs0], (I, S)) r) : Ev d mX12_holds (28, [some (vR (some (22, 0, a0))), some (vI x1), some (vI x2), some (vI x3)], [vI xs0], (I, S)) r :=
  s_iconst rfl rfl <|
  k
theorem b_X12_holds_29 {d : Nat} {r : PO × PM} {I : Nat → Nat → Int} {S : PS} {a0 : Nat} {x1 x2 x3 xs0 xs1 : Int} (ho1 : -2147483648 ≤ x3 + 1 ∧ x3 + 1 ≤ 2147483647) (k : Ev d mX12_holds (4, [some (vR (some (22, 0, a0))), some (vI x1), some (vI (p_or xs0 xs1)), some (vI (x3 + 1))], [], (I, S)) r) : Ev d mX12_holds (29, [some (vR (some (22, 0, a0))), some (vI x1), some (vI x2), some (vI x3)], [vI xs1, vI xs0], (I, S)) r :=
  s_ior rfl <|
  s_istore_n [some (vR (some (22, 0, a0))), some (vI x1), some (vI (p_or xs0 xs1)), some (vI x3)] rfl rfl <|
  s_iincp [some (vR (some (22, 0, a0))), some (vI x1), some (vI (p_or xs0 xs1)), some (vI (x3 + 1))] rfl rfl ho1 rfl <|
  s_goto 4 rfl rfl k
theorem b_X12_holds_37 {d : Nat} {I : Nat → Nat → Int} {S : PS} {a0 : Nat} {x1 x2 x3 : Int} : Ev d mX12_holds (37, [some (vR (some (22, 0, a0))), some (vI x1), some (vI x2), some (vI x3)], [], (I, S)) (.inl (some (vI x2)), (I, S)) :=
  s_iload_n rfl rfl rfl <|
  s_ret rfl rfl
theorem b_X12_isCovered_0 {d : Nat} {r : PO × PM} {I : Nat → Nat → Int} {S : PS} {a0 : Nat} {x1 z : Int} {I1 : Nat → Nat → Int} {S1 : PS} (c : Ca d mX12_holds [vR (some (22, 0, a0)), vI x1] (I, S) (.inl (some (vI z))) (I1, S1)) (k : Ev (d + 1) mX12_isCovered (5, [some (vR (some (22, 0, a0))), some (vI x1), none, none], [vI z], (I1, S1)) r) : Ev (d + 1) mX12_isCovered (0, [some (vR (some (22, 0, a0))), some (vI x1), none, none], [], (I, S)) r :=
  s_aload_n rfl rfl rfl <|
  s_iload_n rfl rfl rfl <|
  s_cvI rfl rfl rfl rfl rfl c k
theorem b_X12_isCovered_5 {d : Nat} {r : PO × PM} {I : Nat → Nat → Int} {S : PS} {a0 : Nat} {x1 xs0 : Int} (k : Ev d mX12_isCovered (8, [some (vR (some (22, 0, a0))), some (vI x1), some (vI xs0), some (vI 0)], [], (I, S)) r) : Ev d mX12_isCovered (5, [some (vR (some (22, 0, a0))), some (vI x1), none, none], [vI xs0], (I, S)) r :=
  s_istore_n [some (vR (some (22, 0, a0))), some (vI x1), some (vI xs0), none] rfl rfl <|
  s_iconst rfl rfl <|
  s_istore_n [some (vR (some (22, 0, a0))), some (vI x1), some (vI xs0), some (vI 0)] rfl rfl <|
  k
theorem b_X12_isCovered_8 {d : Nat} {r : PO × PM} {I : Nat → Nat → Int} {S : PS} {a0 : Nat} {x1 x2 x3 : Int} (kt : I a0 13 ≤ x3 → Ev d mX12_isCovered (41, [some (vR (some (22, 0, a0))), some (vI x1), some (vI x2), some (vI x3)], [], (I, S)) r) (kf : x3 < I a0 13 → Ev d mX12_isCovered (16, [some (vR (some (22, 0, a0))), some (vI x1), some (vI x2), some (vI x3)], [], (I, S)) r) : Ev d mX12_isCovered (8, [some (vR (some (22, 0, a0))), some (vI x1), some (vI x2), some (vI x3)], [], (I, S)) r :=
  s_iload_n rfl rfl rfl <|
  s_aload_n rfl rfl rfl <|
  s_getI rfl rfl rfl <|
  s_icmp_ge 41 rfl rfl kt kf
theorem b_X12_isCovered_16 {d : Nat} {r : PO × PM} {I : Nat → Nat → Int} {S : PS} {a0 : Nat} {x1 x2 x3 : Int} (kt : p_and (p_shr x2 x3) 1 ≠ 1 → Ev d mX12_isCovered (35, [some (vR (some (22, 0, a0))), some (vI x1), some (vI x2), some (vI x3)], [], (I, S)) r) (kf : p_and (p_shr x2 x3) 1 = 1 → Ev d mX12_isCovered (25, [some (vR (some (22, 0, a0))), some (vI x1), some (vI x2), some (vI x3)], [], (I, S)) r) : Ev d mX12_isCovered (16, [some (vR (some (22, 0, a0))), some (vI x1), some (vI x2), some (vI x3)], [], (I, S)) r :=
  s_iload_n rfl rfl rfl <|
  s_iload_n rfl rfl rfl <|
  s_ishr rfl <|
  s_iconst rfl rfl <|
  s_iand rfl <|
  s_iconst rfl rfl <|
  s_icmp_ne 35 rfl rfl kt kf
theorem b_X12_isCovered_25 {d : Nat} {r : PO × PM} {I : Nat → Nat → Int} {S : PS} {a0 : Nat} {x1 x2 x3 z : Int} {I1 : Nat → Nat → Int} {S1 : PS} (c : Ca d mX12_isReducible [vR (some (22, 0, a0)), vI x3] (I, S) (.inl (some (vI z))) (I1, S1)) (k : Ev (d + 1) mX12_isCovered (30, [some (vR (some (22, 0, a0))), some (vI x1), some (vI x2), some (vI x3)], [vI z], (I1, S1)) r) : Ev (d + 1) mX12_isCovered (25, [some (vR (some (22, 0, a0))), some (vI x1), some (vI x2), some (vI x3)], [], (I, S)) r :=
  s_aload_n rfl rfl rfl <|
  s_iload_n rfl rfl rfl <|
  s_cvI rfl rfl rfl rfl rfl c k
theorem b_X12_isCovered_30 {d : Nat} {r : PO × PM} {I : Nat → Nat → Int} {S : PS} {a0 : Nat} {x1 x2 x3 xs0 : Int} (kt : xs0 = 0 → Ev d mX12_isCovered (35, [some (vR (some (22, 0, a0))), some (vI x1), some (vI x2), some (vI x3)], [], (I, S)) r) (kf : xs0 ≠ 0 → Ev d mX12_isCovered (33, [some (vR (some (22, 0, a0))), some (vI x1), some (vI x2), some (vI x3)], [], (I, S)) r) : Ev d mX12_isCovered (30, [some (vR (some (22, 0, a0))), some (vI x1), some (vI x2), some (vI x3)], [vI xs0], (I, S)) r :=
  s_if_eq 35 rfl rfl kt kf
theorem b_X12_isCovered_33 {d : Nat} {I : Nat → Nat → Int} {S : PS} {a0 : Nat} {x1 x2 x3 : Int} : Ev d mX12_isCovered (33, [some (vR (some (22, 0, a0))), some (vI x1), some (vI x2), some (vI x3)], [], (I, S)) (.inl (some (vI 1)), (I, S)) :=
  s_iconst rfl rfl <|
  s_ret rfl rfl
theorem b_X12_isCovered_35 {d : Nat} {r : PO × PM} {I : Nat → Nat → Int} {S : PS} {a0 : Nat} {x1 x2 x3 : Int} (ho1 : -2147483648 ≤ x3 + 1 ∧ x3 + 1 ≤ 2147483647) (k : Ev d mX12_isCovered (8, [some (vR (some (22, 0, a0))), some (vI x1), some (vI x2), some (vI (x3 + 1))], [], (I, S)) r) : Ev d mX12_isCovered (35, [some (vR (some (22, 0, a0))), some (vI x1), some (vI x2), some (vI x3)], [], (I, S)) r :=
  s_iincp [some (vR (some (22, 0, a0))), some (vI x1), some (vI x2), some (vI (x3 + 1))] rfl rfl ho1 rfl <|
  s_goto 8 rfl rfl k
theorem b_X12_isCovered_41 {d : Nat} {I : Nat → Nat → Int} {S : PS} {a0 : Nat} {x1 x2 x3 : Int} : Ev d mX12_isCovered (41, [some (vR (some (22, 0, a0))), some (vI x1), some (vI x2), some (vI x3)], [], (I, S)) (.inl (some (vI 0)), (I, S)) :=
  s_iconst rfl rfl <|
  s_ret rfl rfl
theorem b_X12_hub_0 {d : Nat} {r : PO × PM} {I : Nat → Nat → Int} {S : PS} {a0 : Nat} {x1 x2 x3 z : Int} {I1 : Nat → Nat → Int} {S1 : PS} (c : Ca d mX12_isWhat [vR (some (22, 0, a0)), vI x3, vI 1] ((up2 I a0 0 0), S) (.inl (some (vI z))) (I1, S1)) (k : Ev (d + 1) mX12_hub (11, [some (vR (some (22, 0, a0))), some (vI x1), some (vI x2), some (vI x3), none, none], [vI z], (I1, S1)) r) : Ev (d + 1) mX12_hub (0, [some (vR (some (22, 0, a0))), some (vI x1), some (vI x2), some (vI x3), none, none], [], (I, S)) r :=
  s_aload_n rfl rfl rfl <|
  s_iconst rfl rfl <|
  s_putI rfl rfl rfl <|
  s_aload_n rfl rfl rfl <|
  s_iload_n rfl rfl rfl <|
  s_iconst rfl rfl <|
  s_cvI rfl rfl rfl rfl rfl c k
theorem b_X12_hub_11 {d : Nat} {r : PO × PM} {I : Nat → Nat → Int} {S : PS} {a0 : Nat} {x1 x2 x3 xs0 : Int} (kt : xs0 = 0 → Ev d mX12_hub (29, [some (vR (some (22, 0, a0))), some (vI x1), some (vI x2), some (vI x3), none, none], [], (I, S)) r) (kf : xs0 ≠ 0 → Ev d mX12_hub (14, [some (vR (some (22, 0, a0))), some (vI x1), some (vI x2), some (vI x3), none, none], [], (I, S)) r) : Ev d mX12_hub (11, [some (vR (some (22, 0, a0))), some (vI x1), some (vI x2), some (vI x3), none, none], [vI xs0], (I, S)) r :=
  s_if_eq 29 rfl rfl kt kf
theorem b_X12_hub_14 {d : Nat} {r : PO × PM} {I : Nat → Nat → Int} {S : PS} {a0 : Nat} {x1 x2 x3 z : Int} {I1 : Nat → Nat → Int} {S1 : PS} (c : Ca d mX12_within [vI x1, vI 5, vI 7] (I, S) (.inl (some (vI z))) (I1, S1)) (k : Ev (d + 1) mX12_hub (22, [some (vR (some (22, 0, a0))), some (vI x1), some (vI x2), some (vI x3), none, none], [vI z, vR (some (22, 0, a0))], (I1, S1)) r) : Ev (d + 1) mX12_hub (14, [some (vR (some (22, 0, a0))), some (vI x1), some (vI x2), some (vI x3), none, none], [], (I, S)) r :=
  s_aload_n rfl rfl rfl <|
  s_iload_n rfl rfl rfl <|
  s_iconst rfl rfl <|
  s_bipush rfl rfl <|
  s_csI rfl rfl rfl rfl rfl rfl c k
theorem b_X12_hub_22 {d : Nat} {r : PO × PM} {I : Nat → Nat → Int} {S : PS} {a0 as0 : Nat} {x1 x2 x3 xs1 z : Int} {I1 : Nat → Nat → Int} {S1 : PS} (c : Ca d mX12_right [vR (some (22, 0, as0)), vI xs1, vI 2] (I, S) (.inl (some (vI z))) (I1, S1)) (k : Ev (d + 1) mX12_hub (26, [some (vR (some (22, 0, a0))), some (vI x1), some (vI x2), some (vI x3), none, none], [vI z], (I1, S1)) r) : Ev (d + 1) mX12_hub (22, [some (vR (some (22, 0, a0))), some (vI x1), some (vI x2), some (vI x3), none, none], [vI xs1, vR (some (22, 0, as0))], (I, S)) r :=
  s_iconst rfl rfl <|
  s_cvI rfl rfl rfl rfl rfl c k
theorem b_X12_hub_26 {d : Nat} {r : PO × PM} {I : Nat → Nat → Int} {S : PS} {a0 : Nat} {x1 x2 x3 xs0 : Int} (kt : xs0 ≠ 0 → Ev d mX12_hub (31, [some (vR (some (22, 0, a0))), some (vI x1), some (vI x2), some (vI x3), none, none], [], (I, S)) r) (kf : xs0 = 0 → Ev d mX12_hub (29, [some (vR (some (22, 0, a0))), some (vI x1), some (vI x2), some (vI x3), none, none], [], (I, S)) r) : Ev d mX12_hub (26, [some (vR (some (22, 0, a0))), some (vI x1), some (vI x2), some (vI x3), none, none], [vI xs0], (I, S)) r :=
  s_if_ne 31 rfl rfl kt kf
theorem b_X12_hub_29 {d : Nat} {I : Nat → Nat → Int} {S : PS} {a0 : Nat} {x1 x2 x3 : Int} : Ev d mX12_hub (29, [some (vR (some (22, 0, a0))), some (vI x1), some (vI x2), some (vI x3), none, none], [], (I, S)) (.inl (some (vI 0)), (I, S)) :=
  s_iconst rfl rfl <|
  s_ret rfl rfl
theorem b_X12_hub_31 {d : Nat} {r : PO × PM} {I : Nat → Nat → Int} {S : PS} {a0 : Nat} {x1 x2 x3 : Int} (ho1 : -2147483648 ≤ x1 - 1 ∧ x1 - 1 ≤ 2147483647) (k : Ev d mX12_hub (39, [some (vR (some (22, 0, a0))), some (vI x1), some (vI x2), some (vI x3), some (vI x2), some (vI (x1 - 1))], [], (I, S)) r) : Ev d mX12_hub (31, [some (vR (some (22, 0, a0))), some (vI x1), some (vI x2), some (vI x3), none, none], [], (I, S)) r :=
  s_iload_n rfl rfl rfl <|
  s_istore [some (vR (some (22, 0, a0))), some (vI x1), some (vI x2), some (vI x3), some (vI x2), none] rfl rfl <|
  s_iload_n rfl rfl rfl <|
  s_iconst rfl rfl <|
  s_isubp rfl ho1 <|
  s_istore [some (vR (some (22, 0, a0))), some (vI x1), some (vI x2), some (vI x3), some (vI x2), some (vI (x1 - 1))] rfl rfl <|
  k
theorem b_X12_hub_39 {d : Nat} {r : PO × PM} {I : Nat → Nat → Int} {S : PS} {a0 : Nat} {x1 x2 x3 x4 x5 : Int} (kt : x5 < 0 → Ev d mX12_hub (92, [some (vR (some (22, 0, a0))), some (vI x1), some (vI x2), some (vI x3), some (vI x4), some (vI x5)], [], (I, S)) r) (kf : 0 ≤ x5 → Ev d mX12_hub (44, [some (vR (some (22, 0, a0))), some (vI x1), some (vI x2), some (vI x3), some (vI x4), some (vI x5)], [], (I, S)) r) : Ev d mX12_hub (39, [some (vR (some (22, 0, a0))), some (vI x1), some (vI x2), some (vI x3), some (vI x4), some (vI x5)], [], (I, S)) r :=
  s_iload rfl rfl rfl <|
  s_if_lt 92 rfl rfl kt kf
theorem b_X12_hub_44 {d : Nat} {r : PO × PM} {I : Nat → Nat → Int} {S : PS} {a0 p1 q1 : Nat} {x1 x2 x3 x4 x5 z : Int} {I1 : Nat → Nat → Int} {S1 : PS} (hr1 : S.1 a0 38 = some (0, q1, p1)) (hi2 : 0 ≤ x5 ∧ x5 < (q1 : Nat)) (hi3 : 0 ≤ x5 ∧ x5 < (q1 : Nat)) (c : Ca d mX12_within [vI ((up2 I p1 (x5.toNat) (p_rem x4 10)) p1 x5.toNat), vI 5, vI 9] ((up2 I p1 (x5.toNat) (p_rem x4 10)), S) (.inl (some (vI z))) (I1, S1)) (k : Ev (d + 1) mX12_hub (77, [some (vR (some (22, 0, a0))), some (vI x1), some (vI x2), some (vI x3), some (vI (p_div x4 10)), some (vI x5)], [vI z, vR (some (22, 0, a0))], (I1, S1)) r) : Ev (d + 1) mX12_hub (44, [some (vR (some (22, 0, a0))), some (vI x1), some (vI x2), some (vI x3), some (vI x4), some (vI x5)], [], (I, S)) r :=
  s_aload_n rfl rfl rfl <|
  s_getR rfl rfl rfl hr1 <|
  s_iload rfl rfl rfl <|
  s_iload rfl rfl rfl <|
  s_bipush rfl rfl <|
  s_irem rfl (by decide) <|
  s_iast rfl hi2 <|
  s_iload rfl rfl rfl <|
  s_bipush rfl rfl <|
  s_idiv rfl (by decide) <|
  s_istore [some (vR (some (22, 0, a0))), some (vI x1), some (vI x2), some (vI x3), some (vI (p_div x4 10)), some (vI x5)] rfl rfl <|
  s_aload_n rfl rfl rfl <|
  s_aload_n rfl rfl rfl <|
  s_getR rfl rfl rfl hr1 <|
  s_iload rfl rfl rfl <|
  s_iald rfl rfl hi3 <|
  s_iconst rfl rfl <|
  s_bipush rfl rfl <|
  s_csI rfl rfl rfl rfl rfl rfl c k
theorem b_X12_hub_77 {d : Nat} {r : PO × PM} {I : Nat → Nat → Int} {S : PS} {a0 as0 : Nat} {x1 x2 x3 x4 x5 xs1 z : Int} {I1 : Nat → Nat → Int} {S1 : PS} (c : Ca d mX12_right [vR (some (22, 0, as0)), vI xs1, vI 2] (I, S) (.inl (some (vI z))) (I1, S1)) (k : Ev (d + 1) mX12_hub (81, [some (vR (some (22, 0, a0))), some (vI x1), some (vI x2), some (vI x3), some (vI x4), some (vI x5)], [vI z], (I1, S1)) r) : Ev (d + 1) mX12_hub (77, [some (vR (some (22, 0, a0))), some (vI x1), some (vI x2), some (vI x3), some (vI x4), some (vI x5)], [vI xs1, vR (some (22, 0, as0))], (I, S)) r :=
  s_iconst rfl rfl <|
  s_cvI rfl rfl rfl rfl rfl c k
theorem b_X12_hub_81 {d : Nat} {r : PO × PM} {I : Nat → Nat → Int} {S : PS} {a0 : Nat} {x1 x2 x3 x4 x5 xs0 : Int} (kt : xs0 ≠ 0 → Ev d mX12_hub (86, [some (vR (some (22, 0, a0))), some (vI x1), some (vI x2), some (vI x3), some (vI x4), some (vI x5)], [], (I, S)) r) (kf : xs0 = 0 → Ev d mX12_hub (84, [some (vR (some (22, 0, a0))), some (vI x1), some (vI x2), some (vI x3), some (vI x4), some (vI x5)], [], (I, S)) r) : Ev d mX12_hub (81, [some (vR (some (22, 0, a0))), some (vI x1), some (vI x2), some (vI x3), some (vI x4), some (vI x5)], [vI xs0], (I, S)) r :=
  s_if_ne 86 rfl rfl kt kf
theorem b_X12_hub_84 {d : Nat} {I : Nat → Nat → Int} {S : PS} {a0 : Nat} {x1 x2 x3 x4 x5 : Int} : Ev d mX12_hub (84, [some (vR (some (22, 0, a0))), some (vI x1), some (vI x2), some (vI x3), some (vI x4), some (vI x5)], [], (I, S)) (.inl (some (vI 0)), (I, S)) :=
  s_iconst rfl rfl <|
  s_ret rfl rfl
theorem b_X12_hub_86 {d : Nat} {r : PO × PM} {I : Nat → Nat → Int} {S : PS} {a0 : Nat} {x1 x2 x3 x4 x5 : Int} (ho1 : -2147483648 ≤ x5 - 1 ∧ x5 - 1 ≤ 2147483647) (k : Ev d mX12_hub (39, [some (vR (some (22, 0, a0))), some (vI x1), some (vI x2), some (vI x3), some (vI x4), some (vI (x5 - 1))], [], (I, S)) r) : Ev d mX12_hub (86, [some (vR (some (22, 0, a0))), some (vI x1), some (vI x2), some (vI x3), some (vI x4), some (vI x5)], [], (I, S)) r :=
  s_iincpn [some (vR (some (22, 0, a0))), some (vI x1), some (vI x2), some (vI x3), some (vI x4), some (vI (x5 - 1))] rfl rfl ho1 rfl <|
  s_goto 39 rfl rfl k
theorem b_X12_hub_92 {d : Nat} {r : PO × PM} {I : Nat → Nat → Int} {S : PS} {a0 : Nat} {x1 x2 x3 x4 x5 : Int} (kt : x4 ≠ 0 → Ev d mX12_hub (102, [some (vR (some (22, 0, a0))), some (vI x1), some (vI x2), some (vI x3), some (vI x4), some (vI x5)], [vR (some (22, 0, a0))], (I, S)) r) (kf : x4 = 0 → Ev d mX12_hub (98, [some (vR (some (22, 0, a0))), some (vI x1), some (vI x2), some (vI x3), some (vI x4), some (vI x5)], [vR (some (22, 0, a0))], (I, S)) r) : Ev d mX12_hub (92, [some (vR (some (22, 0, a0))), some (vI x1), some (vI x2), some (vI x3), some (vI x4), some (vI x5)], [], (I, S)) r :=
  s_aload_n rfl rfl rfl <|
  s_iload rfl rfl rfl <|
  s_if_ne 102 rfl rfl kt kf
theorem b_X12_hub_98 {d : Nat} {r : PO × PM} {I : Nat → Nat → Int} {S : PS} {a0 as0 : Nat} {x1 x2 x3 x4 x5 : Int} (k : Ev d mX12_hub (103, [some (vR (some (22, 0, a0))), some (vI x1), some (vI x2), some (vI x3), some (vI x4), some (vI x5)], [vI 1, vR (some (22, 0, as0))], (I, S)) r) : Ev d mX12_hub (98, [some (vR (some (22, 0, a0))), some (vI x1), some (vI x2), some (vI x3), some (vI x4), some (vI x5)], [vR (some (22, 0, as0))], (I, S)) r :=
  s_iconst rfl rfl <|
  s_goto 103 rfl rfl k
theorem b_X12_hub_102 {d : Nat} {r : PO × PM} {I : Nat → Nat → Int} {S : PS} {a0 as0 : Nat} {x1 x2 x3 x4 x5 : Int} (k : Ev d mX12_hub (103, [some (vR (some (22, 0, a0))), some (vI x1), some (vI x2), some (vI x3), some (vI x4), some (vI x5)], [vI 0, vR (some (22, 0, as0))], (I, S)) r) : Ev d mX12_hub (102, [some (vR (some (22, 0, a0))), some (vI x1), some (vI x2), some (vI x3), some (vI x4), some (vI x5)], [vR (some (22, 0, as0))], (I, S)) r :=
  s_iconst rfl rfl <|
  k
theorem b_X12_hub_103 {d : Nat} {r : PO × PM} {I : Nat → Nat → Int} {S : PS} {a0 as0 : Nat} {x1 x2 x3 x4 x5 xs1 z : Int} {I1 : Nat → Nat → Int} {S1 : PS} (c : Ca d mX12_right [vR (some (22, 0, as0)), vI xs1, vI 2] (I, S) (.inl (some (vI z))) (I1, S1)) (k : Ev (d + 1) mX12_hub (107, [some (vR (some (22, 0, a0))), some (vI x1), some (vI x2), some (vI x3), some (vI x4), some (vI x5)], [vI z], (I1, S1)) r) : Ev (d + 1) mX12_hub (103, [some (vR (some (22, 0, a0))), some (vI x1), some (vI x2), some (vI x3), some (vI x4), some (vI x5)], [vI xs1, vR (some (22, 0, as0))], (I, S)) r :=
  s_iconst rfl rfl <|
  s_cvI rfl rfl rfl rfl rfl c k
theorem b_X12_hub_107 {d : Nat} {r : PO × PM} {I : Nat → Nat → Int} {S : PS} {a0 : Nat} {x1 x2 x3 x4 x5 xs0 : Int} (kt : xs0 ≠ 0 → Ev d mX12_hub (112, [some (vR (some (22, 0, a0))), some (vI x1), some (vI x2), some (vI x3), some (vI x4), some (vI x5)], [], (I, S)) r) (kf : xs0 = 0 → Ev d mX12_hub (110, [some (vR (some (22, 0, a0))), some (vI x1), some (vI x2), some (vI x3), some (vI x4), some (vI x5)], [], (I, S)) r) : Ev d mX12_hub (107, [some (vR (some (22, 0, a0))), some (vI x1), some (vI x2), some (vI x3), some (vI x4), some (vI x5)], [vI xs0], (I, S)) r :=
  s_if_ne 112 rfl rfl kt kf
theorem b_X12_hub_110 {d : Nat} {I : Nat → Nat → Int} {S : PS} {a0 : Nat} {x1 x2 x3 x4 x5 : Int} : Ev d mX12_hub (110, [some (vR (some (22, 0, a0))), some (vI x1), some (vI x2), some (vI x3), some (vI x4), some (vI x5)], [], (I, S)) (.inl (some (vI 0)), (I, S)) :=
  s_iconst rfl rfl <|
  s_ret rfl rfl
theorem b_X12_hub_112 {d : Nat} {r : PO × PM} {I : Nat → Nat → Int} {S : PS} {a0 : Nat} {x1 x2 x3 x4 x5 : Int} (kt : x3 ≠ 0 → Ev d mX12_hub (125, [some (vR (some (22, 0, a0))), some (vI x1), some (vI x2), some (vI x3), some (vI x4), some (vI x5)], [], (I, S)) r) (kf : x3 = 0 → Ev d mX12_hub (116, [some (vR (some (22, 0, a0))), some (vI x1), some (vI x2), some (vI x3), some (vI x4), some (vI x5)], [], (I, S)) r) : Ev d mX12_hub (112, [some (vR (some (22, 0, a0))), some (vI x1), some (vI x2), some (vI x3), some (vI x4), some (vI x5)], [], (I, S)) r :=
  s_iload_n rfl rfl rfl <|
  s_if_ne 125 rfl rfl kt kf
theorem b_X12_hub_116 {d : Nat} {r : PO × PM} {I : Nat → Nat → Int} {S : PS} {a0 : Nat} {x1 x2 x3 x4 x5 z : Int} {I1 : Nat → Nat → Int} {S1 : PS} (c : Ca d mX12_chargeBy [vR (some (22, 0, a0)), vI 0, vI x1] (I, S) (.inl (some (vI z))) (I1, S1)) (k : Ev (d + 1) mX12_hub (122, [some (vR (some (22, 0, a0))), some (vI x1), some (vI x2), some (vI x3), some (vI x4), some (vI x5)], [vI z], (I1, S1)) r) : Ev (d + 1) mX12_hub (116, [some (vR (some (22, 0, a0))), some (vI x1), some (vI x2), some (vI x3), some (vI x4), some (vI x5)], [], (I, S)) r :=
  s_aload_n rfl rfl rfl <|
  s_iconst rfl rfl <|
  s_iload_n rfl rfl rfl <|
  s_cvI rfl rfl rfl rfl rfl c k
theorem b_X12_hub_122 {d : Nat} {r : PO × PM} {I : Nat → Nat → Int} {S : PS} {a0 : Nat} {x1 x2 x3 x4 x5 xs0 : Int} (k : Ev d mX12_hub (130, [some (vR (some (22, 0, a0))), some (vI x1), some (vI x2), some (vI x3), some (vI x4), some (vI x5)], [vI xs0], (I, S)) r) : Ev d mX12_hub (122, [some (vR (some (22, 0, a0))), some (vI x1), some (vI x2), some (vI x3), some (vI x4), some (vI x5)], [vI xs0], (I, S)) r :=
  s_goto 130 rfl rfl k
theorem b_X12_hub_125 {d : Nat} {r : PO × PM} {I : Nat → Nat → Int} {S : PS} {a0 : Nat} {x1 x2 x3 x4 x5 z : Int} {I1 : Nat → Nat → Int} {S1 : PS} (c : Ca d mX12_holds [vR (some (22, 0, a0)), vI x1] (I, S) (.inl (some (vI z))) (I1, S1)) (k : Ev (d + 1) mX12_hub (130, [some (vR (some (22, 0, a0))), some (vI x1), some (vI x2), some (vI x3), some (vI x4), some (vI x5)], [vI z], (I1, S1)) r) : Ev (d + 1) mX12_hub (125, [some (vR (some (22, 0, a0))), some (vI x1), some (vI x2), some (vI x3), some (vI x4), some (vI x5)], [], (I, S)) r :=
  s_aload_n rfl rfl rfl <|
  s_iload_n rfl rfl rfl <|
  s_cvI rfl rfl rfl rfl rfl c k
theorem b_X12_hub_130 {d : Nat} {I : Nat → Nat → Int} {S : PS} {a0 : Nat} {x1 x2 x3 x4 x5 xs0 : Int} : Ev d mX12_hub (130, [some (vR (some (22, 0, a0))), some (vI x1), some (vI x2), some (vI x3), some (vI x4), some (vI x5)], [vI xs0], (I, S)) (.inl (some (vI xs0)), (I, S)) :=
  s_ret rfl rfl
theorem b_X12_isLeast_0 {d : Nat} {r : PO × PM} {I : Nat → Nat → Int} {S : PS} {a0 : Nat} {x1 : Int} (k : Ev d mX12_isLeast (2, [some (vR (some (22, 0, a0))), some (vI x1), some (vI 0), none, none], [], (I, S)) r) : Ev d mX12_isLeast (0, [some (vR (some (22, 0, a0))), some (vI x1), none, none, none], [], (I, S)) r :=
  s_iconst rfl rfl <|
  s_istore_n [some (vR (some (22, 0, a0))), some (vI x1), some (vI 0), none, none] rfl rfl <|
  k
theorem b_X12_isLeast_2 {d : Nat} {r : PO × PM} {I : Nat → Nat → Int} {S : PS} {a0 : Nat} {x1 x2 : Int} (kt : x1 ≤ x2 → Ev d mX12_isLeast (100, [some (vR (some (22, 0, a0))), some (vI x1), some (vI x2), none, none], [], (I, S)) r) (kf : x2 < x1 → Ev d mX12_isLeast (7, [some (vR (some (22, 0, a0))), some (vI x1), some (vI x2), none, none], [], (I, S)) r) : Ev d mX12_isLeast (2, [some (vR (some (22, 0, a0))), some (vI x1), some (vI x2), none, none], [], (I, S)) r :=
  s_iload_n rfl rfl rfl <|
  s_iload_n rfl rfl rfl <|
  s_icmp_ge 100 rfl rfl kt kf
theorem b_X12_isLeast_7 {d : Nat} {r : PO × PM} {I : Nat → Nat → Int} {S : PS} {a0 : Nat} {x1 x2 : Int} (k : Ev d mX12_isLeast (9, [some (vR (some (22, 0, a0))), some (vI x1), some (vI x2), some (vI 1), none], [], (I, S)) r) : Ev d mX12_isLeast (7, [some (vR (some (22, 0, a0))), some (vI x1), some (vI x2), none, none], [], (I, S)) r :=
  s_iconst rfl rfl <|
  s_istore_n [some (vR (some (22, 0, a0))), some (vI x1), some (vI x2), some (vI 1), none] rfl rfl <|
  k
theorem b_X12_isLeast_9 {d : Nat} {r : PO × PM} {I : Nat → Nat → Int} {S : PS} {a0 : Nat} {x1 x2 x3 : Int} (kt : x3 ≤ (-2) → Ev d mX12_isLeast (94, [some (vR (some (22, 0, a0))), some (vI x1), some (vI x2), some (vI x3), none], [], (I, S)) r) (kf : (-2) < x3 → Ev d mX12_isLeast (15, [some (vR (some (22, 0, a0))), some (vI x1), some (vI x2), some (vI x3), none], [], (I, S)) r) : Ev d mX12_isLeast (9, [some (vR (some (22, 0, a0))), some (vI x1), some (vI x2), some (vI x3), none], [], (I, S)) r :=
  s_iload_n rfl rfl rfl <|
  s_bipush rfl rfl <|
  s_icmp_le 94 rfl rfl kt kf
theorem b_X12_isLeast_15 {d : Nat} {r : PO × PM} {I : Nat → Nat → Int} {S : PS} {a0 : Nat} {x1 x2 x3 : Int} (k : Ev d mX12_isLeast (18, [some (vR (some (22, 0, a0))), some (vI x1), some (vI x2), some (vI x3), some (vI 0)], [], (I, S)) r) : Ev d mX12_isLeast (15, [some (vR (some (22, 0, a0))), some (vI x1), some (vI x2), some (vI x3), none], [], (I, S)) r :=
  s_iconst rfl rfl <|
  s_istore [some (vR (some (22, 0, a0))), some (vI x1), some (vI x2), some (vI x3), some (vI 0)] rfl rfl <|
  k
theorem b_X12_isLeast_18 {d : Nat} {r : PO × PM} {I : Nat → Nat → Int} {S : PS} {a0 : Nat} {x1 x2 x3 x4 : Int} (kt : x1 ≤ x4 → Ev d mX12_isLeast (55, [some (vR (some (22, 0, a0))), some (vI x1), some (vI x2), some (vI x3), some (vI x4)], [], (I, S)) r) (kf : x4 < x1 → Ev d mX12_isLeast (24, [some (vR (some (22, 0, a0))), some (vI x1), some (vI x2), some (vI x3), some (vI x4)], [], (I, S)) r) : Ev d mX12_isLeast (18, [some (vR (some (22, 0, a0))), some (vI x1), some (vI x2), some (vI x3), some (vI x4)], [], (I, S)) r :=
  s_iload rfl rfl rfl <|
  s_iload_n rfl rfl rfl <|
  s_icmp_ge 55 rfl rfl kt kf
theorem b_X12_isLeast_24 {d : Nat} {r : PO × PM} {I : Nat → Nat → Int} {S : PS} {a0 p1 q1 : Nat} {x1 x2 x3 x4 : Int} (hr1 : S.1 a0 38 = some (0, q1, p1)) (ho2 : -2147483648 ≤ x3 * x4 ∧ x3 * x4 ≤ 2147483647) (ho3 : -2147483648 ≤ x2 + (x3 * x4) ∧ x2 + (x3 * x4) ≤ 2147483647) (ho4 : -2147483648 ≤ (x2 + (x3 * x4)) + x1 ∧ (x2 + (x3 * x4)) + x1 ≤ 2147483647) (hd5 : (0 ≤ (x2 + (x3 * x4)) + x1 ∧ (x2 + (x3 * x4)) + x1 ≤ 2147483647) ∧ 0 < x1 ∧ x1 ≤ 2147483647) (hi6 : 0 ≤ ((x2 + (x3 * x4)) + x1) % x1 ∧ ((x2 + (x3 * x4)) + x1) % x1 < (q1 : Nat)) (hi7 : 0 ≤ x4 ∧ x4 < (q1 : Nat)) (kt : I p1 (((x2 + (x3 * x4)) + x1) % x1).toNat ≠ I p1 x4.toNat → Ev d mX12_isLeast (55, [some (vR (some (22, 0, a0))), some (vI x1), some (vI x2), some (vI x3), some (vI x4)], [], (I, S)) r) (kf : I p1 (((x2 + (x3 * x4)) + x1) % x1).toNat = I p1 x4.toNat → Ev d mX12_isLeast (49, [some (vR (some (22, 0, a0))), some (vI x1), some (vI x2), some (vI x3), some (vI x4)], [], (I, S)) r) : Ev d mX12_isLeast (24, [some (vR (some (22, 0, a0))), some (vI x1), some (vI x2), some (vI x3), some (vI x4)], [], (I, S)) r :=
  s_aload_n rfl rfl rfl <|
  s_getR rfl rfl rfl hr1 <|
  s_iload_n rfl rfl rfl <|
  s_iload_n rfl rfl rfl <|
  s_iload rfl rfl rfl <|
  s_imulp rfl ho2 <|
  s_iaddp rfl ho3 <|
  s_iload_n rfl rfl rfl <|
  s_iaddp rfl ho4 <|
  s_iload_n rfl rfl rfl <|
  s_iremp rfl hd5 <|
  s_iald rfl rfl hi6 <|
  s_aload_n rfl rfl rfl <|
  s_getR rfl rfl rfl hr1 <|
  s_iload rfl rfl rfl <|
  s_iald rfl rfl hi7 <|
  s_icmp_ne 55 rfl rfl kt kf
theorem b_X12_isLeast_49 {d : Nat} {r : PO × PM} {I : Nat → Nat → Int} {S : PS} {a0 : Nat} {x1 x2 x3 x4 : Int} (ho1 : -2147483648 ≤ x4 + 1 ∧ x4 + 1 ≤ 2147483647) (k : Ev d mX12_isLeast (18, [some (vR (some (22, 0, a0))), some (vI x1), some (vI x2), some (vI x3), some (vI (x4 + 1))], [], (I, S)) r) : Ev d mX12_isLeast (49, [some (vR (some (22, 0, a0))), some (vI x1), some (vI x2), some (vI x3), some (vI x4)], [], (I, S)) r :=
  s_iincp [some (vR (some (22, 0, a0))), some (vI x1), some (vI x2), some (vI x3), some (vI (x4 + 1))] rfl rfl ho1 rfl <|
  s_goto 18 rfl rfl k
theorem b_X12_isLeast_55 {d : Nat} {r : PO × PM} {I : Nat → Nat → Int} {S : PS} {a0 : Nat} {x1 x2 x3 x4 : Int} (kt : x1 ≤ x4 → Ev d mX12_isLeast (88, [some (vR (some (22, 0, a0))), some (vI x1), some (vI x2), some (vI x3), some (vI x4)], [], (I, S)) r) (kf : x4 < x1 → Ev d mX12_isLeast (61, [some (vR (some (22, 0, a0))), some (vI x1), some (vI x2), some (vI x3), some (vI x4)], [], (I, S)) r) : Ev d mX12_isLeast (55, [some (vR (some (22, 0, a0))), some (vI x1), some (vI x2), some (vI x3), some (vI x4)], [], (I, S)) r :=
  s_iload rfl rfl rfl <|
  s_iload_n rfl rfl rfl <|
  s_icmp_ge 88 rfl rfl kt kf
theorem b_X12_isLeast_61 {d : Nat} {r : PO × PM} {I : Nat → Nat → Int} {S : PS} {a0 p1 q1 : Nat} {x1 x2 x3 x4 : Int} (hr1 : S.1 a0 38 = some (0, q1, p1)) (ho2 : -2147483648 ≤ x3 * x4 ∧ x3 * x4 ≤ 2147483647) (ho3 : -2147483648 ≤ x2 + (x3 * x4) ∧ x2 + (x3 * x4) ≤ 2147483647) (ho4 : -2147483648 ≤ (x2 + (x3 * x4)) + x1 ∧ (x2 + (x3 * x4)) + x1 ≤ 2147483647) (hd5 : (0 ≤ (x2 + (x3 * x4)) + x1 ∧ (x2 + (x3 * x4)) + x1 ≤ 2147483647) ∧ 0 < x1 ∧ x1 ≤ 2147483647) (hi6 : 0 ≤ ((x2 + (x3 * x4)) + x1) % x1 ∧ ((x2 + (x3 * x4)) + x1) % x1 < (q1 : Nat)) (hi7 : 0 ≤ x4 ∧ x4 < (q1 : Nat)) (kt : I p1 x4.toNat ≤ I p1 (((x2 + (x3 * x4)) + x1) % x1).toNat → Ev d mX12_isLeast (88, [some (vR (some (22, 0, a0))), some (vI x1), some (vI x2), some (vI x3), some (vI x4)], [], (I, S)) r) (kf : I p1 (((x2 + (x3 * x4)) + x1) % x1).toNat < I p1 x4.toNat → Ev d mX12_isLeast (86, [some (vR (some (22, 0, a0))), some (vI x1), some (vI x2), some (vI x3), some (vI x4)], [], (I, S)) r) : Ev d mX12_isLeast (61, [some (vR (some (22, 0, a0))), some (vI x1), some (vI x2), some (vI x3), some (vI x4)], [], (I, S)) r :=
  s_aload_n rfl rfl rfl <|
  s_getR rfl rfl rfl hr1 <|
  s_iload_n rfl rfl rfl <|
  s_iload_n rfl rfl rfl <|
  s_iload rfl rfl rfl <|
  s_imulp rfl ho2 <|
  s_iaddp rfl ho3 <|
  s_iload_n rfl rfl rfl <|
  s_iaddp rfl ho4 <|
  s_iload_n rfl rfl rfl <|
  s_iremp rfl hd5 <|
  s_iald rfl rfl hi6 <|
  s_aload_n rfl rfl rfl <|
  s_getR rfl rfl rfl hr1 <|
  s_iload rfl rfl rfl <|
  s_iald rfl rfl hi7 <|
  s_icmp_ge 88 rfl rfl kt kf
theorem b_X12_isLeast_86 {d : Nat} {I : Nat → Nat → Int} {S : PS} {a0 : Nat} {x1 x2 x3 x4 : Int} : Ev d mX12_isLeast (86, [some (vR (some (22, 0, a0))), some (vI x1), some (vI x2), some (vI x3), some (vI x4)], [], (I, S)) (.inl (some (vI 0)), (I, S)) :=
  s_iconst rfl rfl <|
  s_ret rfl rfl
theorem b_X12_isLeast_88 {d : Nat} {r : PO × PM} {I : Nat → Nat → Int} {S : PS} {a0 : Nat} {x1 x2 x3 x4 : Int} (ho1 : -2147483648 ≤ x3 - 2 ∧ x3 - 2 ≤ 2147483647) (k : Ev d mX12_isLeast (9, [some (vR (some (22, 0, a0))), some (vI x1), some (vI x2), some (vI (x3 - 2)), none], [], (I, S)) r) : Ev d mX12_isLeast (88, [some (vR (some (22, 0, a0))), some (vI x1), some (vI x2), some (vI x3), some (vI x4)], [], (I, S)) r :=
  s_iincpn [some (vR (some (22, 0, a0))), some (vI x1), some (vI x2), some (vI (x3 - 2)), some (vI x4)] rfl rfl ho1 rfl <|
  s_goto 9 rfl rfl (ev_forget [false, false, false, false, true] rfl k)
theorem b_X12_isLeast_94 {d : Nat} {r : PO × PM} {I : Nat → Nat → Int} {S : PS} {a0 : Nat} {x1 x2 x3 : Int} (ho1 : -2147483648 ≤ x2 + 1 ∧ x2 + 1 ≤ 2147483647) (k : Ev d mX12_isLeast (2, [some (vR (some (22, 0, a0))), some (vI x1), some (vI (x2 + 1)), none, none], [], (I, S)) r) : Ev d mX12_isLeast (94, [some (vR (some (22, 0, a0))), some (vI x1), some (vI x2), some (vI x3), none], [], (I, S)) r :=
  s_iincp [some (vR (some (22, 0, a0))), some (vI x1), some (vI (x2 + 1)), some (vI x3), none] rfl rfl ho1 rfl <|
  s_goto 2 rfl rfl (ev_forget [false, false, false, true, false] rfl k)
theorem b_X12_isLeast_100 {d : Nat} {I : Nat → Nat → Int} {S : PS} {a0 : Nat} {x1 x2 : Int} : Ev d mX12_isLeast (100, [some (vR (some (22, 0, a0))), some (vI x1), some (vI x2), none, none], [], (I, S)) (.inl (some (vI 1)), (I, S)) :=
  s_iconst rfl rfl <|
  s_ret rfl rfl
theorem b_X12_cases_0 {d : Nat} {r : PO × PM} {I : Nat → Nat → Int} {S : PS} {a0 : Nat} {x1 x2 z : Int} {I1 : Nat → Nat → Int} {S1 : PS} (c : Ca d mX12_isWhat [vR (some (22, 0, a0)), vI x2, vI 5] ((up2 I a0 0 0), S) (.inl (some (vI z))) (I1, S1)) (k : Ev (d + 1) mX12_cases (11, [some (vR (some (22, 0, a0))), some (vI x1), some (vI x2), none, none, none, none, none, none, none, none, none, none, none], [vI z], (I1, S1)) r) : Ev (d + 1) mX12_cases (0, [some (vR (some (22, 0, a0))), some (vI x1), some (vI x2), none, none, none, none, none, none, none, none, none, none, none], [], (I, S)) r :=
  s_aload_n rfl rfl rfl <|
  s_iconst rfl rfl <|
  s_putI rfl rfl rfl <|
  s_aload_n rfl rfl rfl <|
  s_iload_n rfl rfl rfl <|
  s_iconst rfl rfl <|
  s_cvI rfl rfl rfl rfl rfl c k
theorem b_X12_cases_11 {d : Nat} {r : PO × PM} {I : Nat → Nat → Int} {S : PS} {a0 : Nat} {x1 x2 xs0 : Int} (kt : xs0 = 0 → Ev d mX12_cases (29, [some (vR (some (22, 0, a0))), some (vI x1), some (vI x2), none, none, none, none, none, none, none, none, none, none, none], [], (I, S)) r) (kf : xs0 ≠ 0 → Ev d mX12_cases (14, [some (vR (some (22, 0, a0))), some (vI x1), some (vI x2), none, none, none, none, none, none, none, none, none, none, none], [], (I, S)) r) : Ev d mX12_cases (11, [some (vR (some (22, 0, a0))), some (vI x1), some (vI x2), none, none, none, none, none, none, none, none, none, none, none], [vI xs0], (I, S)) r :=
  s_if_eq 29 rfl rfl kt kf
theorem b_X12_cases_14 {d : Nat} {r : PO × PM} {I : Nat → Nat → Int} {S : PS} {a0 : Nat} {x1 x2 z : Int} {I1 : Nat → Nat → Int} {S1 : PS} (c : Ca d mX12_within [vI x1, vI 5, vI 7] (I, S) (.inl (some (vI z))) (I1, S1)) (k : Ev (d + 1) mX12_cases (22, [some (vR (some (22, 0, a0))), some (vI x1), some (vI x2), none, none, none, none, none, none, none, none, none, none, none], [vI z, vR (some (22, 0, a0))], (I1, S1)) r) : Ev (d + 1) mX12_cases (14, [some (vR (some (22, 0, a0))), some (vI x1), some (vI x2), none, none, none, none, none, none, none, none, none, none, none], [], (I, S)) r :=
  s_aload_n rfl rfl rfl <|
  s_iload_n rfl rfl rfl <|
  s_iconst rfl rfl <|
  s_bipush rfl rfl <|
  s_csI rfl rfl rfl rfl rfl rfl c k
theorem b_X12_cases_22 {d : Nat} {r : PO × PM} {I : Nat → Nat → Int} {S : PS} {a0 as0 : Nat} {x1 x2 xs1 z : Int} {I1 : Nat → Nat → Int} {S1 : PS} (c : Ca d mX12_right [vR (some (22, 0, as0)), vI xs1, vI 2] (I, S) (.inl (some (vI z))) (I1, S1)) (k : Ev (d + 1) mX12_cases (26, [some (vR (some (22, 0, a0))), some (vI x1), some (vI x2), none, none, none, none, none, none, none, none, none, none, none], [vI z], (I1, S1)) r) : Ev (d + 1) mX12_cases (22, [some (vR (some (22, 0, a0))), some (vI x1), some (vI x2), none, none, none, none, none, none, none, none, none, none, none], [vI xs1, vR (some (22, 0, as0))], (I, S)) r :=
  s_iconst rfl rfl <|
  s_cvI rfl rfl rfl rfl rfl c k
theorem b_X12_cases_26 {d : Nat} {r : PO × PM} {I : Nat → Nat → Int} {S : PS} {a0 : Nat} {x1 x2 xs0 : Int} (kt : xs0 ≠ 0 → Ev d mX12_cases (31, [some (vR (some (22, 0, a0))), some (vI x1), some (vI x2), none, none, none, none, none, none, none, none, none, none, none], [], (I, S)) r) (kf : xs0 = 0 → Ev d mX12_cases (29, [some (vR (some (22, 0, a0))), some (vI x1), some (vI x2), none, none, none, none, none, none, none, none, none, none, none], [], (I, S)) r) : Ev d mX12_cases (26, [some (vR (some (22, 0, a0))), some (vI x1), some (vI x2), none, none, none, none, none, none, none, none, none, none, none], [vI xs0], (I, S)) r :=
  s_if_ne 31 rfl rfl kt kf
theorem b_X12_cases_29 {d : Nat} {I : Nat → Nat → Int} {S : PS} {a0 : Nat} {x1 x2 : Int} : Ev d mX12_cases (29, [some (vR (some (22, 0, a0))), some (vI x1), some (vI x2), none, none, none, none, none, none, none, none, none, none, none], [], (I, S)) (.inl (some (vI 0)), (I, S)) :=
  s_iconst rfl rfl <|
  s_ret rfl rfl
theorem b_X12_cases_31 {d : Nat} {r : PO × PM} {I : Nat → Nat → Int} {S : PS} {a0 : Nat} {x1 x2 : Int} (k : Ev d mX12_cases (36, [some (vR (some (22, 0, a0))), some (vI x1), some (vI x2), some (vI 1), some (vI 0), none, none, none, none, none, none, none, none, none], [], (I, S)) r) : Ev d mX12_cases (31, [some (vR (some (22, 0, a0))), some (vI x1), some (vI x2), none, none, none, none, none, none, none, none, none, none, none], [], (I, S)) r :=
  s_iconst rfl rfl <|
  s_istore_n [some (vR (some (22, 0, a0))), some (vI x1), some (vI x2), some (vI 1), none, none, none, none, none, none, none, none, none, none] rfl rfl <|
  s_iconst rfl rfl <|
  s_istore [some (vR (some (22, 0, a0))), some (vI x1), some (vI x2), some (vI 1), some (vI 0), none, none, none, none, none, none, none, none, none] rfl rfl <|
  k
theorem b_X12_cases_36 {d : Nat} {r : PO × PM} {I : Nat → Nat → Int} {S : PS} {a0 : Nat} {x1 x2 x3 x4 : Int} (kt : x1 ≤ x4 → Ev d mX12_cases (52, [some (vR (some (22, 0, a0))), some (vI x1), some (vI x2), some (vI x3), some (vI x4), none, none, none, none, none, none, none, none, none], [], (I, S)) r) (kf : x4 < x1 → Ev d mX12_cases (42, [some (vR (some (22, 0, a0))), some (vI x1), some (vI x2), some (vI x3), some (vI x4), none, none, none, none, none, none, none, none, none], [], (I, S)) r) : Ev d mX12_cases (36, [some (vR (some (22, 0, a0))), some (vI x1), some (vI x2), some (vI x3), some (vI x4), none, none, none, none, none, none, none, none, none], [], (I, S)) r :=
  s_iload rfl rfl rfl <|
  s_iload_n rfl rfl rfl <|
  s_icmp_ge 52 rfl rfl kt kf
theorem b_X12_cases_42 {d : Nat} {r : PO × PM} {I : Nat → Nat → Int} {S : PS} {a0 : Nat} {x1 x2 x3 x4 : Int} (ho1 : -2147483648 ≤ 3 * x3 ∧ 3 * x3 ≤ 2147483647) (ho2 : -2147483648 ≤ x4 + 1 ∧ x4 + 1 ≤ 2147483647) (k : Ev d mX12_cases (36, [some (vR (some (22, 0, a0))), some (vI x1), some (vI x2), some (vI (3 * x3)), some (vI (x4 + 1)), none, none, none, none, none, none, none, none, none], [], (I, S)) r) : Ev d mX12_cases (42, [some (vR (some (22, 0, a0))), some (vI x1), some (vI x2), some (vI x3), some (vI x4), none, none, none, none, none, none, none, none, none], [], (I, S)) r :=
  s_iconst rfl rfl <|
  s_iload_n rfl rfl rfl <|
  s_imulp rfl ho1 <|
  s_istore_n [some (vR (some (22, 0, a0))), some (vI x1), some (vI x2), some (vI (3 * x3)), some (vI x4), none, none, none, none, none, none, none, none, none] rfl rfl <|
  s_iincp [some (vR (some (22, 0, a0))), some (vI x1), some (vI x2), some (vI (3 * x3)), some (vI (x4 + 1)), none, none, none, none, none, none, none, none, none] rfl rfl ho2 rfl <|
  s_goto 36 rfl rfl k
theorem b_X12_cases_52 {d : Nat} {r : PO × PM} {I : Nat → Nat → Int} {S : PS} {a0 : Nat} {x1 x2 x3 x4 : Int} (k : Ev d mX12_cases (72, [some (vR (some (22, 0, a0))), some (vI x1), some (vI x2), some (vI x3), some (vI 0), some (vI 0), some (vI 0), some (vI (-1)), some (vI (-999999)), some (vI 0), none, none, none, none], [], (I, S)) r) : Ev d mX12_cases (52, [some (vR (some (22, 0, a0))), some (vI x1), some (vI x2), some (vI x3), some (vI x4), none, none, none, none, none, none, none, none, none], [], (I, S)) r :=
  s_iconst rfl rfl <|
  s_istore [some (vR (some (22, 0, a0))), some (vI x1), some (vI x2), some (vI x3), some (vI 0), none, none, none, none, none, none, none, none, none] rfl rfl <|
  s_iconst rfl rfl <|
  s_istore [some (vR (some (22, 0, a0))), some (vI x1), some (vI x2), some (vI x3), some (vI 0), some (vI 0), none, none, none, none, none, none, none, none] rfl rfl <|
  s_iconst rfl rfl <|
  s_istore [some (vR (some (22, 0, a0))), some (vI x1), some (vI x2), some (vI x3), some (vI 0), some (vI 0), some (vI 0), none, none, none, none, none, none, none] rfl rfl <|
  s_iconst rfl rfl <|
  s_istore [some (vR (some (22, 0, a0))), some (vI x1), some (vI x2), some (vI x3), some (vI 0), some (vI 0), some (vI 0), some (vI (-1)), none, none, none, none, none, none] rfl rfl <|
  s_ldc_w rfl rfl <|
  s_istore [some (vR (some (22, 0, a0))), some (vI x1), some (vI x2), some (vI x3), some (vI 0), some (vI 0), some (vI 0), some (vI (-1)), some (vI (-999999)), none, none, none, none, none] rfl rfl <|
  s_iconst rfl rfl <|
  s_istore [some (vR (some (22, 0, a0))), some (vI x1), some (vI x2), some (vI x3), some (vI 0), some (vI 0), some (vI 0), some (vI (-1)), some (vI (-999999)), some (vI 0), none, none, none, none] rfl rfl <|
  k
theorem b_X12_cases_72 {d : Nat} {r : PO × PM} {I : Nat → Nat → Int} {S : PS} {a0 : Nat} {x1 x2 x3 x4 x5 x6 x7 x8 x9 : Int} (kt : x3 ≤ x9 → Ev d mX12_cases (229, [some (vR (some (22, 0, a0))), some (vI x1), some (vI x2), some (vI x3), some (vI x4), some (vI x5), some (vI x6), some (vI x7), some (vI x8), some (vI x9), none, none, none, none], [], (I, S)) r) (kf : x9 < x3 → Ev d mX12_cases (78, [some (vR (some (22, 0, a0))), some (vI x1), some (vI x2), some (vI x3), some (vI x4), some (vI x5), some (vI x6), some (vI x7), some (vI x8), some (vI x9), none, none, none, none], [], (I, S)) r) : Ev d mX12_cases (72, [some (vR (some (22, 0, a0))), some (vI x1), some (vI x2), some (vI x3), some (vI x4), some (vI x5), some (vI x6), some (vI x7), some (vI x8), some (vI x9), none, none, none, none], [], (I, S)) r :=
  s_iload rfl rfl rfl <|
  s_iload_n rfl rfl rfl <|
  s_icmp_ge 229 rfl rfl kt kf
theorem b_X12_cases_78 {d : Nat} {r : PO × PM} {I : Nat → Nat → Int} {S : PS} {a0 : Nat} {x1 x2 x3 x4 x5 x6 x7 x8 x9 : Int} (ho1 : -2147483648 ≤ x1 - 1 ∧ x1 - 1 ≤ 2147483647) (k : Ev d mX12_cases (90, [some (vR (some (22, 0, a0))), some (vI x1), some (vI x2), some (vI x3), some (vI x4), some (vI x5), some (vI x6), some (vI x7), some (vI x8), some (vI x9), some (vI x9), some (vI 0), some (vI (x1 - 1)), none], [], (I, S)) r) : Ev d mX12_cases (78, [some (vR (some (22, 0, a0))), some (vI x1), some (vI x2), some (vI x3), some (vI x4), some (vI x5), some (vI x6), some (vI x7), some (vI x8), some (vI x9), none, none, none, none], [], (I, S)) r :=
  s_iload rfl rfl rfl <|
  s_istore [some (vR (some (22, 0, a0))), some (vI x1), some (vI x2), some (vI x3), some (vI x4), some (vI x5), some (vI x6), some (vI x7), some (vI x8), some (vI x9), some (vI x9), none, none, none] rfl rfl <|
  s_iconst rfl rfl <|
  s_istore [some (vR (some (22, 0, a0))), some (vI x1), some (vI x2), some (vI x3), some (vI x4), some (vI x5), some (vI x6), some (vI x7), some (vI x8), some (vI x9), some (vI x9), some (vI 0), none, none] rfl rfl <|
  s_iload_n rfl rfl rfl <|
  s_iconst rfl rfl <|
  s_isubp rfl ho1 <|
  s_istore [some (vR (some (22, 0, a0))), some (vI x1), some (vI x2), some (vI x3), some (vI x4), some (vI x5), some (vI x6), some (vI x7), some (vI x8), some (vI x9), some (vI x9), some (vI 0), some (vI (x1 - 1)), none] rfl rfl <|
  k
theorem b_X12_cases_90 {d : Nat} {r : PO × PM} {I : Nat → Nat → Int} {S : PS} {a0 : Nat} {x1 x2 x3 x4 x5 x6 x7 x8 x9 x10 x11 x12 : Int} (kt : x12 < 0 → Ev d mX12_cases (120, [some (vR (some (22, 0, a0))), some (vI x1), some (vI x2), some (vI x3), some (vI x4), some (vI x5), some (vI x6), some (vI x7), some (vI x8), some (vI x9), some (vI x10), some (vI x11), some (vI x12), none], [], (I, S)) r) (kf : 0 ≤ x12 → Ev d mX12_cases (95, [some (vR (some (22, 0, a0))), some (vI x1), some (vI x2), some (vI x3), some (vI x4), some (vI x5), some (vI x6), some (vI x7), some (vI x8), some (vI x9), some (vI x10), some (vI x11), some (vI x12), none], [], (I, S)) r) : Ev d mX12_cases (90, [some (vR (some (22, 0, a0))), some (vI x1), some (vI x2), some (vI x3), some (vI x4), some (vI x5), some (vI x6), some (vI x7), some (vI x8), some (vI x9), some (vI x10), some (vI x11), some (vI x12), none], [], (I, S)) r :=
  s_iload rfl rfl rfl <|
  s_if_lt 120 rfl rfl kt kf
theorem b_X12_cases_95 {d : Nat} {r : PO × PM} {I : Nat → Nat → Int} {S : PS} {a0 p1 q1 : Nat} {x1 x2 x3 x4 x5 x6 x7 x8 x9 x10 x11 x12 : Int} (hr1 : S.1 a0 38 = some (0, q1, p1)) (hd2 : (0 ≤ x10 ∧ x10 ≤ 2147483647) ∧ 0 < (3 : Int) ∧ (3 : Int) ≤ 2147483647) (ho3 : -2147483648 ≤ 5 + (x10 % 3) ∧ 5 + (x10 % 3) ≤ 2147483647) (hi4 : 0 ≤ x12 ∧ x12 < (q1 : Nat)) (hd5 : (0 ≤ x10 ∧ x10 ≤ 2147483647) ∧ 0 < (3 : Int) ∧ (3 : Int) ≤ 2147483647) (ho6 : -2147483648 ≤ x12 - 1 ∧ x12 - 1 ≤ 2147483647) (k : Ev d mX12_cases (90, [some (vR (some (22, 0, a0))), some (vI x1), some (vI x2), some (vI x3), some (vI x4), some (vI x5), some (vI x6), some (vI x7), some (vI x8), some (vI x9), some (vI (x10 / 3)), some (vI x11), some (vI (x12 - 1)), none], [], ((up2 I p1 (x12.toNat) (5 + (x10 % 3))), S)) r) : Ev d mX12_cases (95, [some (vR (some (22, 0, a0))), some (vI x1), some (vI x2), some (vI x3), some (vI x4), some (vI x5), some (vI x6), some (vI x7), some (vI x8), some (vI x9), some (vI x10), some (vI x11), some (vI x12), none], [], (I, S)) r :=
  s_aload_n rfl rfl rfl <|
  s_getR rfl rfl rfl hr1 <|
  s_iload rfl rfl rfl <|
  s_iconst rfl rfl <|
  s_iload rfl rfl rfl <|
  s_iconst rfl rfl <|
  s_iremp rfl hd2 <|
  s_iaddp rfl ho3 <|
  s_iast rfl hi4 <|
  s_iload rfl rfl rfl <|
  s_iconst rfl rfl <|
  s_idivp rfl hd5 <|
  s_istore [some (vR (some (22, 0, a0))), some (vI x1), some (vI x2), some (vI x3), some (vI x4), some (vI x5), some (vI x6), some (vI x7), some (vI x8), some (vI x9), some (vI (x10 / 3)), some (vI x11), some (vI x12), none] rfl rfl <|
  s_iincpn [some (vR (some (22, 0, a0))), some (vI x1), some (vI x2), some (vI x3), some (vI x4), some (vI x5), some (vI x6), some (vI x7), some (vI x8), some (vI x9), some (vI (x10 / 3)), some (vI x11), some (vI (x12 - 1)), none] rfl rfl ho6 rfl <|
  s_goto 90 rfl rfl k
theorem b_X12_cases_120 {d : Nat} {r : PO × PM} {I : Nat → Nat → Int} {S : PS} {a0 : Nat} {x1 x2 x3 x4 x5 x6 x7 x8 x9 x10 x11 x12 z : Int} {I1 : Nat → Nat → Int} {S1 : PS} (c : Ca d mX12_isLeast [vR (some (22, 0, a0)), vI x1] (I, S) (.inl (some (vI z))) (I1, S1)) (k : Ev (d + 1) mX12_cases (125, [some (vR (some (22, 0, a0))), some (vI x1), some (vI x2), some (vI x3), some (vI x4), some (vI x5), some (vI x6), some (vI x7), some (vI x8), some (vI x9), some (vI x10), some (vI x11), some (vI x12), none], [vI z], (I1, S1)) r) : Ev (d + 1) mX12_cases (120, [some (vR (some (22, 0, a0))), some (vI x1), some (vI x2), some (vI x3), some (vI x4), some (vI x5), some (vI x6), some (vI x7), some (vI x8), some (vI x9), some (vI x10), some (vI x11), some (vI x12), none], [], (I, S)) r :=
  s_aload_n rfl rfl rfl <|
  s_iload_n rfl rfl rfl <|
  s_cvI rfl rfl rfl rfl rfl c k
theorem b_X12_cases_125 {d : Nat} {r : PO × PM} {I : Nat → Nat → Int} {S : PS} {a0 : Nat} {x1 x2 x3 x4 x5 x6 x7 x8 x9 x10 x11 x12 xs0 : Int} (kt : xs0 ≠ 0 → Ev d mX12_cases (131, [some (vR (some (22, 0, a0))), some (vI x1), some (vI x2), some (vI x3), some (vI x4), some (vI x5), some (vI x6), some (vI x7), some (vI x8), some (vI x9), some (vI x10), some (vI x11), some (vI x12), none], [], (I, S)) r) (kf : xs0 = 0 → Ev d mX12_cases (128, [some (vR (some (22, 0, a0))), some (vI x1), some (vI x2), some (vI x3), some (vI x4), some (vI x5), some (vI x6), some (vI x7), some (vI x8), some (vI x9), some (vI x10), some (vI x11), some (vI x12), none], [], (I, S)) r) : Ev d mX12_cases (125, [some (vR (some (22, 0, a0))), some (vI x1), some (vI x2), some (vI x3), some (vI x4), some (vI x5), some (vI x6), some (vI x7), some (vI x8), some (vI x9), some (vI x10), some (vI x11), some (vI x12), none], [vI xs0], (I, S)) r :=
  s_if_ne 131 rfl rfl kt kf
theorem b_X12_cases_128 {d : Nat} {r : PO × PM} {I : Nat → Nat → Int} {S : PS} {a0 : Nat} {x1 x2 x3 x4 x5 x6 x7 x8 x9 x10 x11 x12 : Int} (k : Ev d mX12_cases (223, [some (vR (some (22, 0, a0))), some (vI x1), some (vI x2), some (vI x3), some (vI x4), some (vI x5), some (vI x6), some (vI x7), some (vI x8), some (vI x9), some (vI x10), some (vI x11), some (vI x12), none], [], (I, S)) r) : Ev d mX12_cases (128, [some (vR (some (22, 0, a0))), some (vI x1), some (vI x2), some (vI x3), some (vI x4), some (vI x5), some (vI x6), some (vI x7), some (vI x8), some (vI x9), some (vI x10), some (vI x11), some (vI x12), none], [], (I, S)) r :=
  s_goto 223 rfl rfl k
theorem b_X12_cases_131 {d : Nat} {r : PO × PM} {I : Nat → Nat → Int} {S : PS} {a0 : Nat} {x1 x2 x3 x4 x5 x6 x7 x8 x9 x10 x11 x12 z : Int} {I1 : Nat → Nat → Int} {S1 : PS} (ho1 : -2147483648 ≤ x4 + 1 ∧ x4 + 1 ≤ 2147483647) (c : Ca d mX12_chargeBy [vR (some (22, 0, a0)), vI 0, vI x1] (I, S) (.inl (some (vI z))) (I1, S1)) (k : Ev (d + 1) mX12_cases (140, [some (vR (some (22, 0, a0))), some (vI x1), some (vI x2), some (vI x3), some (vI (x4 + 1)), some (vI x5), some (vI x6), some (vI x7), some (vI x8), some (vI x9), some (vI x10), some (vI x11), some (vI x12), none], [vI z], (I1, S1)) r) : Ev (d + 1) mX12_cases (131, [some (vR (some (22, 0, a0))), some (vI x1), some (vI x2), some (vI x3), some (vI x4), some (vI x5), some (vI x6), some (vI x7), some (vI x8), some (vI x9), some (vI x10), some (vI x11), some (vI x12), none], [], (I, S)) r :=
  s_iincp [some (vR (some (22, 0, a0))), some (vI x1), some (vI x2), some (vI x3), some (vI (x4 + 1)), some (vI x5), some (vI x6), some (vI x7), some (vI x8), some (vI x9), some (vI x10), some (vI x11), some (vI x12), none] rfl rfl ho1 rfl <|
  s_aload_n rfl rfl rfl <|
  s_iconst rfl rfl <|
  s_iload_n rfl rfl rfl <|
  s_cvI rfl rfl rfl rfl rfl c k
theorem b_X12_cases_140 {d : Nat} {r : PO × PM} {I : Nat → Nat → Int} {S : PS} {a0 : Nat} {x1 x2 x3 x4 x5 x6 x7 x8 x9 x10 x11 x12 xs0 : Int} (kt : xs0 ≤ x8 → Ev d mX12_cases (154, [some (vR (some (22, 0, a0))), some (vI x1), some (vI x2), some (vI x3), some (vI x4), some (vI x5), some (vI x6), some (vI x7), some (vI x8), some (vI x9), some (vI x10), some (vI x11), some (vI xs0), none], [], (I, S)) r) (kf : x8 < xs0 → Ev d mX12_cases (149, [some (vR (some (22, 0, a0))), some (vI x1), some (vI x2), some (vI x3), some (vI x4), some (vI x5), some (vI x6), some (vI x7), some (vI x8), some (vI x9), some (vI x10), some (vI x11), some (vI xs0), none], [], (I, S)) r) : Ev d mX12_cases (140, [some (vR (some (22, 0, a0))), some (vI x1), some (vI x2), some (vI x3), some (vI x4), some (vI x5), some (vI x6), some (vI x7), some (vI x8), some (vI x9), some (vI x10), some (vI x11), some (vI x12), none], [vI xs0], (I, S)) r :=
  s_istore [some (vR (some (22, 0, a0))), some (vI x1), some (vI x2), some (vI x3), some (vI x4), some (vI x5), some (vI x6), some (vI x7), some (vI x8), some (vI x9), some (vI x10), some (vI x11), some (vI xs0), none] rfl rfl <|
  s_iload rfl rfl rfl <|
  s_iload rfl rfl rfl <|
  s_icmp_le 154 rfl rfl kt kf
theorem b_X12_cases_149 {d : Nat} {r : PO × PM} {I : Nat → Nat → Int} {S : PS} {a0 : Nat} {x1 x2 x3 x4 x5 x6 x7 x8 x9 x10 x11 x12 : Int} (k : Ev d mX12_cases (156, [some (vR (some (22, 0, a0))), some (vI x1), some (vI x2), some (vI x3), some (vI x4), some (vI x5), some (vI x6), some (vI x7), some (vI x8), some (vI x9), some (vI x10), some (vI x11), some (vI x12), none], [vI x12], (I, S)) r) : Ev d mX12_cases (149, [some (vR (some (22, 0, a0))), some (vI x1), some (vI x2), some (vI x3), some (vI x4), some (vI x5), some (vI x6), some (vI x7), some (vI x8), some (vI x9), some (vI x10), some (vI x11), some (vI x12), none], [], (I, S)) r :=
  s_iload rfl rfl rfl <|
  s_goto 156 rfl rfl k
theorem b_X12_cases_154 {d : Nat} {r : PO × PM} {I : Nat → Nat → Int} {S : PS} {a0 : Nat} {x1 x2 x3 x4 x5 x6 x7 x8 x9 x10 x11 x12 : Int} (k : Ev d mX12_cases (156, [some (vR (some (22, 0, a0))), some (vI x1), some (vI x2), some (vI x3), some (vI x4), some (vI x5), some (vI x6), some (vI x7), some (vI x8), some (vI x9), some (vI x10), some (vI x11), some (vI x12), none], [vI x8], (I, S)) r) : Ev d mX12_cases (154, [some (vR (some (22, 0, a0))), some (vI x1), some (vI x2), some (vI x3), some (vI x4), some (vI x5), some (vI x6), some (vI x7), some (vI x8), some (vI x9), some (vI x10), some (vI x11), some (vI x12), none], [], (I, S)) r :=
  s_iload rfl rfl rfl <|
  k
theorem b_X12_cases_156 {d : Nat} {r : PO × PM} {I : Nat → Nat → Int} {S : PS} {a0 : Nat} {x1 x2 x3 x4 x5 x6 x7 x8 x9 x10 x11 x12 xs0 : Int} (kt : 0 < x12 → Ev d mX12_cases (166, [some (vR (some (22, 0, a0))), some (vI x1), some (vI x2), some (vI x3), some (vI x4), some (vI x5), some (vI x6), some (vI x7), some (vI xs0), some (vI x9), some (vI x10), some (vI x11), some (vI x12), none], [], (I, S)) r) (kf : x12 ≤ 0 → Ev d mX12_cases (163, [some (vR (some (22, 0, a0))), some (vI x1), some (vI x2), some (vI x3), some (vI x4), some (vI x5), some (vI x6), some (vI x7), some (vI xs0), some (vI x9), some (vI x10), some (vI x11), some (vI x12), none], [], (I, S)) r) : Ev d mX12_cases (156, [some (vR (some (22, 0, a0))), some (vI x1), some (vI x2), some (vI x3), some (vI x4), some (vI x5), some (vI x6), some (vI x7), some (vI x8), some (vI x9), some (vI x10), some (vI x11), some (vI x12), none], [vI xs0], (I, S)) r :=
  s_istore [some (vR (some (22, 0, a0))), some (vI x1), some (vI x2), some (vI x3), some (vI x4), some (vI x5), some (vI x6), some (vI x7), some (vI xs0), some (vI x9), some (vI x10), some (vI x11), some (vI x12), none] rfl rfl <|
  s_iload rfl rfl rfl <|
  s_if_gt 166 rfl rfl kt kf
theorem b_X12_cases_163 {d : Nat} {r : PO × PM} {I : Nat → Nat → Int} {S : PS} {a0 : Nat} {x1 x2 x3 x4 x5 x6 x7 x8 x9 x10 x11 x12 : Int} (k : Ev d mX12_cases (223, [some (vR (some (22, 0, a0))), some (vI x1), some (vI x2), some (vI x3), some (vI x4), some (vI x5), some (vI x6), some (vI x7), some (vI x8), some (vI x9), some (vI x10), some (vI x11), some (vI x12), none], [], (I, S)) r) : Ev d mX12_cases (163, [some (vR (some (22, 0, a0))), some (vI x1), some (vI x2), some (vI x3), some (vI x4), some (vI x5), some (vI x6), some (vI x7), some (vI x8), some (vI x9), some (vI x10), some (vI x11), some (vI x12), none], [], (I, S)) r :=
  s_goto 223 rfl rfl k
theorem b_X12_cases_166 {d : Nat} {r : PO × PM} {I : Nat → Nat → Int} {S : PS} {a0 : Nat} {x1 x2 x3 x4 x5 x6 x7 x8 x9 x10 x11 x12 z : Int} {I1 : Nat → Nat → Int} {S1 : PS} (ho1 : -2147483648 ≤ x5 + 1 ∧ x5 + 1 ≤ 2147483647) (c : Ca d mX12_isCovered [vR (some (22, 0, a0)), vI x1] (I, S) (.inl (some (vI z))) (I1, S1)) (k : Ev (d + 1) mX12_cases (174, [some (vR (some (22, 0, a0))), some (vI x1), some (vI x2), some (vI x3), some (vI x4), some (vI (x5 + 1)), some (vI x6), some (vI x7), some (vI x8), some (vI x9), some (vI x10), some (vI x11), some (vI x12), none], [vI z], (I1, S1)) r) : Ev (d + 1) mX12_cases (166, [some (vR (some (22, 0, a0))), some (vI x1), some (vI x2), some (vI x3), some (vI x4), some (vI x5), some (vI x6), some (vI x7), some (vI x8), some (vI x9), some (vI x10), some (vI x11), some (vI x12), none], [], (I, S)) r :=
  s_iincp [some (vR (some (22, 0, a0))), some (vI x1), some (vI x2), some (vI x3), some (vI x4), some (vI (x5 + 1)), some (vI x6), some (vI x7), some (vI x8), some (vI x9), some (vI x10), some (vI x11), some (vI x12), none] rfl rfl ho1 rfl <|
  s_aload_n rfl rfl rfl <|
  s_iload_n rfl rfl rfl <|
  s_cvI rfl rfl rfl rfl rfl c k
theorem b_X12_cases_174 {d : Nat} {r : PO × PM} {I : Nat → Nat → Int} {S : PS} {a0 : Nat} {x1 x2 x3 x4 x5 x6 x7 x8 x9 x10 x11 x12 xs0 : Int} (kt : xs0 = 0 → Ev d mX12_cases (183, [some (vR (some (22, 0, a0))), some (vI x1), some (vI x2), some (vI x3), some (vI x4), some (vI x5), some (vI x6), some (vI x7), some (vI x8), some (vI x9), some (vI x10), some (vI x11), some (vI x12), none], [], (I, S)) r) (kf : xs0 ≠ 0 → Ev d mX12_cases (177, [some (vR (some (22, 0, a0))), some (vI x1), some (vI x2), some (vI x3), some (vI x4), some (vI x5), some (vI x6), some (vI x7), some (vI x8), some (vI x9), some (vI x10), some (vI x11), some (vI x12), none], [], (I, S)) r) : Ev d mX12_cases (174, [some (vR (some (22, 0, a0))), some (vI x1), some (vI x2), some (vI x3), some (vI x4), some (vI x5), some (vI x6), some (vI x7), some (vI x8), some (vI x9), some (vI x10), some (vI x11), some (vI x12), none], [vI xs0], (I, S)) r :=
  s_if_eq 183 rfl rfl kt kf
theorem b_X12_cases_177 {d : Nat} {r : PO × PM} {I : Nat → Nat → Int} {S : PS} {a0 : Nat} {x1 x2 x3 x4 x5 x6 x7 x8 x9 x10 x11 x12 : Int} (ho1 : -2147483648 ≤ x6 + 1 ∧ x6 + 1 ≤ 2147483647) (k : Ev d mX12_cases (223, [some (vR (some (22, 0, a0))), some (vI x1), some (vI x2), some (vI x3), some (vI x4), some (vI x5), some (vI (x6 + 1)), some (vI x7), some (vI x8), some (vI x9), some (vI x10), some (vI x11), some (vI x12), none], [], (I, S)) r) : Ev d mX12_cases (177, [some (vR (some (22, 0, a0))), some (vI x1), some (vI x2), some (vI x3), some (vI x4), some (vI x5), some (vI x6), some (vI x7), some (vI x8), some (vI x9), some (vI x10), some (vI x11), some (vI x12), none], [], (I, S)) r :=
  s_iincp [some (vR (some (22, 0, a0))), some (vI x1), some (vI x2), some (vI x3), some (vI x4), some (vI x5), some (vI (x6 + 1)), some (vI x7), some (vI x8), some (vI x9), some (vI x10), some (vI x11), some (vI x12), none] rfl rfl ho1 rfl <|
  s_goto 223 rfl rfl k
theorem b_X12_cases_183 {d : Nat} {r : PO × PM} {I : Nat → Nat → Int} {S : PS} {a0 : Nat} {x1 x2 x3 x4 x5 x6 x7 x8 x9 x10 x11 x12 : Int} (k : Ev d mX12_cases (186, [some (vR (some (22, 0, a0))), some (vI x1), some (vI x2), some (vI x3), some (vI x4), some (vI x5), some (vI x6), some (vI x7), some (vI x8), some (vI x9), some (vI x10), some (vI x11), some (vI x12), some (vI 0)], [], (I, S)) r) : Ev d mX12_cases (183, [some (vR (some (22, 0, a0))), some (vI x1), some (vI x2), some (vI x3), some (vI x4), some (vI x5), some (vI x6), some (vI x7), some (vI x8), some (vI x9), some (vI x10), some (vI x11), some (vI x12), none], [], (I, S)) r :=
  s_iconst rfl rfl <|
  s_istore [some (vR (some (22, 0, a0))), some (vI x1), some (vI x2), some (vI x3), some (vI x4), some (vI x5), some (vI x6), some (vI x7), some (vI x8), some (vI x9), some (vI x10), some (vI x11), some (vI x12), some (vI 0)] rfl rfl <|
  k
theorem b_X12_cases_186 {d : Nat} {r : PO × PM} {I : Nat → Nat → Int} {S : PS} {a0 : Nat} {x1 x2 x3 x4 x5 x6 x7 x8 x9 x10 x11 x12 x13 : Int} (kt : x1 ≤ x13 → Ev d mX12_cases (213, [some (vR (some (22, 0, a0))), some (vI x1), some (vI x2), some (vI x3), some (vI x4), some (vI x5), some (vI x6), some (vI x7), some (vI x8), some (vI x9), some (vI x10), some (vI x11), some (vI x12), some (vI x13)], [], (I, S)) r) (kf : x13 < x1 → Ev d mX12_cases (192, [some (vR (some (22, 0, a0))), some (vI x1), some (vI x2), some (vI x3), some (vI x4), some (vI x5), some (vI x6), some (vI x7), some (vI x8), some (vI x9), some (vI x10), some (vI x11), some (vI x12), some (vI x13)], [], (I, S)) r) : Ev d mX12_cases (186, [some (vR (some (22, 0, a0))), some (vI x1), some (vI x2), some (vI x3), some (vI x4), some (vI x5), some (vI x6), some (vI x7), some (vI x8), some (vI x9), some (vI x10), some (vI x11), some (vI x12), some (vI x13)], [], (I, S)) r :=
  s_iload rfl rfl rfl <|
  s_iload_n rfl rfl rfl <|
  s_icmp_ge 213 rfl rfl kt kf
theorem b_X12_cases_192 {d : Nat} {r : PO × PM} {I : Nat → Nat → Int} {S : PS} {a0 p2 q2 : Nat} {x1 x2 x3 x4 x5 x6 x7 x8 x9 x10 x11 x12 x13 : Int} (ho1 : -2147483648 ≤ 10 * x11 ∧ 10 * x11 ≤ 2147483647) (hr2 : S.1 a0 38 = some (0, q2, p2)) (hi3 : 0 ≤ x13 ∧ x13 < (q2 : Nat)) (ho4 : -2147483648 ≤ (10 * x11) + (I p2 x13.toNat) ∧ (10 * x11) + (I p2 x13.toNat) ≤ 2147483647) (ho5 : -2147483648 ≤ x13 + 1 ∧ x13 + 1 ≤ 2147483647) (k : Ev d mX12_cases (186, [some (vR (some (22, 0, a0))), some (vI x1), some (vI x2), some (vI x3), some (vI x4), some (vI x5), some (vI x6), some (vI x7), some (vI x8), some (vI x9), some (vI x10), some (vI ((10 * x11) + (I p2 x13.toNat))), some (vI x12), some (vI (x13 + 1))], [], (I, S)) r) : Ev d mX12_cases (192, [some (vR (some (22, 0, a0))), some (vI x1), some (vI x2), some (vI x3), some (vI x4), some (vI x5), some (vI x6), some (vI x7), some (vI x8), some (vI x9), some (vI x10), some (vI x11), some (vI x12), some (vI x13)], [], (I, S)) r :=
  s_bipush rfl rfl <|
  s_iload rfl rfl rfl <|
  s_imulp rfl ho1 <|
  s_aload_n rfl rfl rfl <|
  s_getR rfl rfl rfl hr2 <|
  s_iload rfl rfl rfl <|
  s_iald rfl rfl hi3 <|
  s_iaddp rfl ho4 <|
  s_istore [some (vR (some (22, 0, a0))), some (vI x1), some (vI x2), some (vI x3), some (vI x4), some (vI x5), some (vI x6), some (vI x7), some (vI x8), some (vI x9), some (vI x10), some (vI ((10 * x11) + (I p2 x13.toNat))), some (vI x12), some (vI x13)] rfl rfl <|
  s_iincp [some (vR (some (22, 0, a0))), some (vI x1), some (vI x2), some (vI x3), some (vI x4), some (vI x5), some (vI x6), some (vI x7), some (vI x8), some (vI x9), some (vI x10), some (vI ((10 * x11) + (I p2 x13.toNat))), some (vI x12), some (vI (x13 + 1))] rfl rfl ho5 rfl <|
  s_goto 186 rfl rfl k
theorem b_X12_cases_213 {d : Nat} {r : PO × PM} {I : Nat → Nat → Int} {S : PS} {a0 : Nat} {x1 x2 x3 x4 x5 x6 x7 x8 x9 x10 x11 x12 x13 : Int} (kt : x7 ≠ (-1) → Ev d mX12_cases (223, [some (vR (some (22, 0, a0))), some (vI x1), some (vI x2), some (vI x3), some (vI x4), some (vI x5), some (vI x6), some (vI x7), some (vI x8), some (vI x9), some (vI x10), some (vI x11), some (vI x12), none], [], (I, S)) r) (kf : x7 = (-1) → Ev d mX12_cases (219, [some (vR (some (22, 0, a0))), some (vI x1), some (vI x2), some (vI x3), some (vI x4), some (vI x5), some (vI x6), some (vI x7), some (vI x8), some (vI x9), some (vI x10), some (vI x11), some (vI x12), some (vI x13)], [], (I, S)) r) : Ev d mX12_cases (213, [some (vR (some (22, 0, a0))), some (vI x1), some (vI x2), some (vI x3), some (vI x4), some (vI x5), some (vI x6), some (vI x7), some (vI x8), some (vI x9), some (vI x10), some (vI x11), some (vI x12), some (vI x13)], [], (I, S)) r :=
  s_iload rfl rfl rfl <|
  s_iconst rfl rfl <|
  s_icmp_ne 223 rfl rfl (fun c => ev_forget [false, false, false, false, false, false, false, false, false, false, false, false, false, true] rfl <| kt c) kf
theorem b_X12_cases_219 {d : Nat} {r : PO × PM} {I : Nat → Nat → Int} {S : PS} {a0 : Nat} {x1 x2 x3 x4 x5 x6 x7 x8 x9 x10 x11 x12 x13 : Int} (k : Ev d mX12_cases (223, [some (vR (some (22, 0, a0))), some (vI x1), some (vI x2), some (vI x3), some (vI x4), some (vI x5), some (vI x6), some (vI x11), some (vI x8), some (vI x9), some (vI x10), some (vI x11), some (vI x12), none], [], (I, S)) r) : Ev d mX12_cases (219, [some (vR (some (22, 0, a0))), some (vI x1), some (vI x2), some (vI x3), some (vI x4), some (vI x5), some (vI x6), some (vI x7), some (vI x8), some (vI x9), some (vI x10), some (vI x11), some (vI x12), some (vI x13)], [], (I, S)) r :=
  s_iload rfl rfl rfl <|
  s_istore [some (vR (some (22, 0, a0))), some (vI x1), some (vI x2), some (vI x3), some (vI x4), some (vI x5), some (vI x6), some (vI x11), some (vI x8), some (vI x9), some (vI x10), some (vI x11), some (vI x12), some (vI x13)] rfl rfl <|
  (ev_forget [false, false, false, false, false, false, false, false, false, false, false, false, false, true] rfl k)
theorem b_X12_cases_223 {d : Nat} {r : PO × PM} {I : Nat → Nat → Int} {S : PS} {a0 : Nat} {x1 x2 x3 x4 x5 x6 x7 x8 x9 x10 x11 x12 : Int} (ho1 : -2147483648 ≤ x9 + 1 ∧ x9 + 1 ≤ 2147483647) (k : Ev d mX12_cases (72, [some (vR (some (22, 0, a0))), some (vI x1), some (vI x2), some (vI x3), some (vI x4), some (vI x5), some (vI x6), some (vI x7), some (vI x8), some (vI (x9 + 1)), none, none, none, none], [], (I, S)) r) : Ev d mX12_cases (223, [some (vR (some (22, 0, a0))), some (vI x1), some (vI x2), some (vI x3), some (vI x4), some (vI x5), some (vI x6), some (vI x7), some (vI x8), some (vI x9), some (vI x10), some (vI x11), some (vI x12), none], [], (I, S)) r :=
  s_iincp [some (vR (some (22, 0, a0))), some (vI x1), some (vI x2), some (vI x3), some (vI x4), some (vI x5), some (vI x6), some (vI x7), some (vI x8), some (vI (x9 + 1)), some (vI x10), some (vI x11), some (vI x12), none] rfl rfl ho1 rfl <|
  s_goto 72 rfl rfl (ev_forget [false, false, false, false, false, false, false, false, false, false, true, true, true, false] rfl k)
theorem b_X12_cases_229 {d : Nat} {r : PO × PM} {I : Nat → Nat → Int} {S : PS} {a0 : Nat} {x1 x2 x3 x4 x5 x6 x7 x8 x9 : Int} (k0 : x2 = 0 → Ev d mX12_cases (264, [some (vR (some (22, 0, a0))), some (vI x1), some (vI x2), some (vI x3), some (vI x4), some (vI x5), some (vI x6), some (vI x7), some (vI x8), some (vI x9), none, none, none, none], [], (I, S)) r) (k1 : x2 = 1 → Ev d mX12_cases (267, [some (vR (some (22, 0, a0))), some (vI x1), some (vI x2), some (vI x3), some (vI x4), some (vI x5), some (vI x6), some (vI x7), some (vI x8), some (vI x9), none, none, none, none], [], (I, S)) r) (k2 : x2 = 2 → Ev d mX12_cases (270, [some (vR (some (22, 0, a0))), some (vI x1), some (vI x2), some (vI x3), some (vI x4), some (vI x5), some (vI x6), some (vI x7), some (vI x8), some (vI x9), none, none, none, none], [], (I, S)) r) (k3 : x2 = 3 → Ev d mX12_cases (273, [some (vR (some (22, 0, a0))), some (vI x1), some (vI x2), some (vI x3), some (vI x4), some (vI x5), some (vI x6), some (vI x7), some (vI x8), some (vI x9), none, none, none, none], [], (I, S)) r) (k4 : x2 = 4 → Ev d mX12_cases (279, [some (vR (some (22, 0, a0))), some (vI x1), some (vI x2), some (vI x3), some (vI x4), some (vI x5), some (vI x6), some (vI x7), some (vI x8), some (vI x9), none, none, none, none], [], (I, S)) r) (kd : ¬(0 ≤ x2 ∧ x2 ≤ 4) → Ev d mX12_cases (282, [some (vR (some (22, 0, a0))), some (vI x1), some (vI x2), some (vI x3), some (vI x4), some (vI x5), some (vI x6), some (vI x7), some (vI x8), some (vI x9), none, none, none, none], [], (I, S)) r) : Ev d mX12_cases (229, [some (vR (some (22, 0, a0))), some (vI x1), some (vI x2), some (vI x3), some (vI x4), some (vI x5), some (vI x6), some (vI x7), some (vI x8), some (vI x9), none, none, none, none], [], (I, S)) r :=
  s_iload_n rfl rfl rfl <|
  s_sw 282 rfl (by decide) (fun c => kd c) (fun j hj => by
  match j, hj with
  | 0, _ => exact fun c => k0 c
  | 1, _ => exact fun c => k1 c
  | 2, _ => exact fun c => k2 c
  | 3, _ => exact fun c => k3 c
  | 4, _ => exact fun c => k4 c
  | j + 5, hj => exact absurd hj (by simp))
theorem b_X12_cases_264 {d : Nat} {I : Nat → Nat → Int} {S : PS} {a0 : Nat} {x1 x2 x3 x4 x5 x6 x7 x8 x9 : Int} : Ev d mX12_cases (264, [some (vR (some (22, 0, a0))), some (vI x1), some (vI x2), some (vI x3), some (vI x4), some (vI x5), some (vI x6), some (vI x7), some (vI x8), some (vI x9), none, none, none, none], [], (I, S)) (.inl (some (vI x4)), (I, S)) :=
  s_iload rfl rfl rfl <|
  s_ret rfl rfl
theorem b_X12_cases_267 {d : Nat} {I : Nat → Nat → Int} {S : PS} {a0 : Nat} {x1 x2 x3 x4 x5 x6 x7 x8 x9 : Int} : Ev d mX12_cases (267, [some (vR (some (22, 0, a0))), some (vI x1), some (vI x2), some (vI x3), some (vI x4), some (vI x5), some (vI x6), some (vI x7), some (vI x8), some (vI x9), none, none, none, none], [], (I, S)) (.inl (some (vI x5)), (I, S)) :=
  s_iload rfl rfl rfl <|
  s_ret rfl rfl
theorem b_X12_cases_270 {d : Nat} {I : Nat → Nat → Int} {S : PS} {a0 : Nat} {x1 x2 x3 x4 x5 x6 x7 x8 x9 : Int} : Ev d mX12_cases (270, [some (vR (some (22, 0, a0))), some (vI x1), some (vI x2), some (vI x3), some (vI x4), some (vI x5), some (vI x6), some (vI x7), some (vI x8), some (vI x9), none, none, none, none], [], (I, S)) (.inl (some (vI x6)), (I, S)) :=
  s_iload rfl rfl rfl <|
  s_ret rfl rfl
theorem b_X12_cases_273 {d : Nat} {I : Nat → Nat → Int} {S : PS} {a0 : Nat} {x1 x2 x3 x4 x5 x6 x7 x8 x9 : Int} (ho1 : -2147483648 ≤ x5 - x6 ∧ x5 - x6 ≤ 2147483647) : Ev d mX12_cases (273, [some (vR (some (22, 0, a0))), some (vI x1), some (vI x2), some (vI x3), some (vI x4), some (vI x5), some (vI x6), some (vI x7), some (vI x8), some (vI x9), none, none, none, none], [], (I, S)) (.inl (some (vI (x5 - x6))), (I, S)) :=
  s_iload rfl rfl rfl <|
  s_iload rfl rfl rfl <|
  s_isubp rfl ho1 <|
  s_ret rfl rfl
theorem b_X12_cases_279 {d : Nat} {I : Nat → Nat → Int} {S : PS} {a0 : Nat} {x1 x2 x3 x4 x5 x6 x7 x8 x9 : Int} : Ev d mX12_cases (279, [some (vR (some (22, 0, a0))), some (vI x1), some (vI x2), some (vI x3), some (vI x4), some (vI x5), some (vI x6), some (vI x7), some (vI x8), some (vI x9), none, none, none, none], [], (I, S)) (.inl (some (vI x7)), (I, S)) :=
  s_iload rfl rfl rfl <|
  s_ret rfl rfl
theorem b_X12_cases_282 {d : Nat} {I : Nat → Nat → Int} {S : PS} {a0 : Nat} {x1 x2 x3 x4 x5 x6 x7 x8 x9 : Int} : Ev d mX12_cases (282, [some (vR (some (22, 0, a0))), some (vI x1), some (vI x2), some (vI x3), some (vI x4), some (vI x5), some (vI x6), some (vI x7), some (vI x8), some (vI x9), none, none, none, none], [], (I, S)) (.inl (some (vI x8)), (I, S)) :=
  s_iload rfl rfl rfl <|
  s_ret rfl rfl
theorem b_X12_rule_0 {d : Nat} {r : PO × PM} {I : Nat → Nat → Int} {S : PS} {a0 : Nat} {x1 x2 : Int} (kt : x1 < 0 → Ev d mX12_rule (22, [some (vR (some (22, 0, a0))), some (vI x1), some (vI x2)], [vR (some (22, 0, a0))], ((up2 I a0 0 0), S)) r) (kf : 0 ≤ x1 → Ev d mX12_rule (10, [some (vR (some (22, 0, a0))), some (vI x1), some (vI x2)], [vR (some (22, 0, a0))], ((up2 I a0 0 0), S)) r) : Ev d mX12_rule (0, [some (vR (some (22, 0, a0))), some (vI x1), some (vI x2)], [], (I, S)) r :=
  s_aload_n rfl rfl rfl <|
  s_iconst rfl rfl <|
  s_putI rfl rfl rfl <|
  s_aload_n rfl rfl rfl <|
  s_iload_n rfl rfl rfl <|
  s_if_lt 22 rfl rfl kt kf
theorem b_X12_rule_10 {d : Nat} {r : PO × PM} {I : Nat → Nat → Int} {S : PS} {a0 as0 : Nat} {x1 x2 : Int} (kt : I a0 14 ≤ x1 → Ev d mX12_rule (22, [some (vR (some (22, 0, a0))), some (vI x1), some (vI x2)], [vR (some (22, 0, as0))], (I, S)) r) (kf : x1 < I a0 14 → Ev d mX12_rule (18, [some (vR (some (22, 0, a0))), some (vI x1), some (vI x2)], [vR (some (22, 0, as0))], (I, S)) r) : Ev d mX12_rule (10, [some (vR (some (22, 0, a0))), some (vI x1), some (vI x2)], [vR (some (22, 0, as0))], (I, S)) r :=
  s_iload_n rfl rfl rfl <|
  s_aload_n rfl rfl rfl <|
  s_getI rfl rfl rfl <|
  s_icmp_ge 22 rfl rfl kt kf
theorem b_X12_rule_18 {d : Nat} {r : PO × PM} {I : Nat → Nat → Int} {S : PS} {a0 as0 : Nat} {x1 x2 : Int} (k : Ev d mX12_rule (23, [some (vR (some (22, 0, a0))), some (vI x1), some (vI x2)], [vI 1, vR (some (22, 0, as0))], (I, S)) r) : Ev d mX12_rule (18, [some (vR (some (22, 0, a0))), some (vI x1), some (vI x2)], [vR (some (22, 0, as0))], (I, S)) r :=
  s_iconst rfl rfl <|
  s_goto 23 rfl rfl k
theorem b_X12_rule_22 {d : Nat} {r : PO × PM} {I : Nat → Nat → Int} {S : PS} {a0 as0 : Nat} {x1 x2 : Int} (k : Ev d mX12_rule (23, [some (vR (some (22, 0, a0))), some (vI x1), some (vI x2)], [vI 0, vR (some (22, 0, as0))], (I, S)) r) : Ev d mX12_rule (22, [some (vR (some (22, 0, a0))), some (vI x1), some (vI x2)], [vR (some (22, 0, as0))], (I, S)) r :=
  s_iconst rfl rfl <|
  k
theorem b_X12_rule_23 {d : Nat} {r : PO × PM} {I : Nat → Nat → Int} {S : PS} {a0 as0 : Nat} {x1 x2 xs1 z : Int} {I1 : Nat → Nat → Int} {S1 : PS} (c : Ca d mX12_right [vR (some (22, 0, as0)), vI xs1, vI 1] (I, S) (.inl (some (vI z))) (I1, S1)) (k : Ev (d + 1) mX12_rule (27, [some (vR (some (22, 0, a0))), some (vI x1), some (vI x2)], [vI z], (I1, S1)) r) : Ev (d + 1) mX12_rule (23, [some (vR (some (22, 0, a0))), some (vI x1), some (vI x2)], [vI xs1, vR (some (22, 0, as0))], (I, S)) r :=
  s_iconst rfl rfl <|
  s_cvI rfl rfl rfl rfl rfl c k
theorem b_X12_rule_27 {d : Nat} {r : PO × PM} {I : Nat → Nat → Int} {S : PS} {a0 : Nat} {x1 x2 xs0 : Int} (kt : xs0 = 0 → Ev d mX12_rule (40, [some (vR (some (22, 0, a0))), some (vI x1), some (vI x2)], [], (I, S)) r) (kf : xs0 ≠ 0 → Ev d mX12_rule (30, [some (vR (some (22, 0, a0))), some (vI x1), some (vI x2)], [], (I, S)) r) : Ev d mX12_rule (27, [some (vR (some (22, 0, a0))), some (vI x1), some (vI x2)], [vI xs0], (I, S)) r :=
  s_if_eq 40 rfl rfl kt kf
theorem b_X12_rule_30 {d : Nat} {r : PO × PM} {I : Nat → Nat → Int} {S : PS} {a0 : Nat} {x1 x2 z : Int} {I1 : Nat → Nat → Int} {S1 : PS} (c : Ca d mX12_isWhat [vR (some (22, 0, a0)), vI x2, vI 7] (I, S) (.inl (some (vI z))) (I1, S1)) (k : Ev (d + 1) mX12_rule (37, [some (vR (some (22, 0, a0))), some (vI x1), some (vI x2)], [vI z], (I1, S1)) r) : Ev (d + 1) mX12_rule (30, [some (vR (some (22, 0, a0))), some (vI x1), some (vI x2)], [], (I, S)) r :=
  s_aload_n rfl rfl rfl <|
  s_iload_n rfl rfl rfl <|
  s_bipush rfl rfl <|
  s_cvI rfl rfl rfl rfl rfl c k
theorem b_X12_rule_37 {d : Nat} {r : PO × PM} {I : Nat → Nat → Int} {S : PS} {a0 : Nat} {x1 x2 xs0 : Int} (kt : xs0 ≠ 0 → Ev d mX12_rule (42, [some (vR (some (22, 0, a0))), some (vI x1), some (vI x2)], [], (I, S)) r) (kf : xs0 = 0 → Ev d mX12_rule (40, [some (vR (some (22, 0, a0))), some (vI x1), some (vI x2)], [], (I, S)) r) : Ev d mX12_rule (37, [some (vR (some (22, 0, a0))), some (vI x1), some (vI x2)], [vI xs0], (I, S)) r :=
  s_if_ne 42 rfl rfl kt kf
theorem b_X12_rule_40 {d : Nat} {I : Nat → Nat → Int} {S : PS} {a0 : Nat} {x1 x2 : Int} : Ev d mX12_rule (40, [some (vR (some (22, 0, a0))), some (vI x1), some (vI x2)], [], (I, S)) (.inl (some (vI 0)), (I, S)) :=
  s_iconst rfl rfl <|
  s_ret rfl rfl
theorem b_X12_rule_42 {d : Nat} {r : PO × PM} {I : Nat → Nat → Int} {S : PS} {a0 : Nat} {x1 x2 : Int} (kt : x2 ≠ 0 → Ev d mX12_rule (58, [some (vR (some (22, 0, a0))), some (vI x1), some (vI x2)], [], (I, S)) r) (kf : x2 = 0 → Ev d mX12_rule (46, [some (vR (some (22, 0, a0))), some (vI x1), some (vI x2)], [], (I, S)) r) : Ev d mX12_rule (42, [some (vR (some (22, 0, a0))), some (vI x1), some (vI x2)], [], (I, S)) r :=
  s_iload_n rfl rfl rfl <|
  s_if_ne 58 rfl rfl kt kf
theorem b_X12_rule_46 {d : Nat} {r : PO × PM} {I : Nat → Nat → Int} {S : PS} {a0 p1 q1 : Nat} {x1 x2 : Int} (hr1 : S.1 a0 39 = some (0, q1, p1)) (ho2 : -2147483648 ≤ 12 + x1 ∧ 12 + x1 ≤ 2147483647) (hi3 : 0 ≤ 12 + x1 ∧ 12 + x1 < (q1 : Nat)) (k : Ev d mX12_rule (69, [some (vR (some (22, 0, a0))), some (vI x1), some (vI x2)], [vI (I p1 (12 + x1).toNat)], (I, S)) r) : Ev d mX12_rule (46, [some (vR (some (22, 0, a0))), some (vI x1), some (vI x2)], [], (I, S)) r :=
  s_aload_n rfl rfl rfl <|
  s_getR rfl rfl rfl hr1 <|
  s_bipush rfl rfl <|
  s_iload_n rfl rfl rfl <|
  s_iaddp rfl ho2 <|
  s_iald rfl rfl hi3 <|
  s_goto 69 rfl rfl k
theorem b_X12_rule_58 {d : Nat} {r : PO × PM} {I : Nat → Nat → Int} {S : PS} {a0 p1 q1 : Nat} {x1 x2 : Int} (hr1 : S.1 a0 20 = some (0, q1, p1)) (ho2 : -2147483648 ≤ 8 * x1 ∧ 8 * x1 ≤ 2147483647) (ho3 : -2147483648 ≤ (8 * x1) + x2 ∧ (8 * x1) + x2 ≤ 2147483647) (hi4 : 0 ≤ (8 * x1) + x2 ∧ (8 * x1) + x2 < (q1 : Nat)) (k : Ev d mX12_rule (69, [some (vR (some (22, 0, a0))), some (vI x1), some (vI x2)], [vI (I p1 ((8 * x1) + x2).toNat)], (I, S)) r) : Ev d mX12_rule (58, [some (vR (some (22, 0, a0))), some (vI x1), some (vI x2)], [], (I, S)) r :=
  s_aload_n rfl rfl rfl <|
  s_getR rfl rfl rfl hr1 <|
  s_bipush rfl rfl <|
  s_iload_n rfl rfl rfl <|
  s_imulp rfl ho2 <|
  s_iload_n rfl rfl rfl <|
  s_iaddp rfl ho3 <|
  s_iald rfl rfl hi4 <|
  k
theorem b_X12_rule_69 {d : Nat} {I : Nat → Nat → Int} {S : PS} {a0 : Nat} {x1 x2 xs0 : Int} : Ev d mX12_rule (69, [some (vR (some (22, 0, a0))), some (vI x1), some (vI x2)], [vI xs0], (I, S)) (.inl (some (vI xs0)), (I, S)) :=
  s_ret rfl rfl
theorem b_X12_keeps_0 {d : Nat} {r : PO × PM} {I : Nat → Nat → Int} {S : PS} {a0 : Nat} (kt : I a0 41 ≠ 30 → Ev d mX12_keeps (50, [some (vR (some (22, 0, a0))), none], [], (I, S)) r) (kf : I a0 41 = 30 → Ev d mX12_keeps (9, [some (vR (some (22, 0, a0))), none], [], (I, S)) r) : Ev d mX12_keeps (0, [some (vR (some (22, 0, a0))), none], [], (I, S)) r :=
  s_aload_n rfl rfl rfl <|
  s_getI rfl rfl rfl <|
  s_bipush rfl rfl <|
  s_icmp_ne 50 rfl rfl kt kf
theorem b_X12_keeps_9 {d : Nat} {r : PO × PM} {I : Nat → Nat → Int} {S : PS} {a0 : Nat} (k : Ev d mX12_keeps (12, [some (vR (some (22, 0, a0))), some (vI 18)], [], (I, S)) r) : Ev d mX12_keeps (9, [some (vR (some (22, 0, a0))), none], [], (I, S)) r :=
  s_bipush rfl rfl <|
  s_istore_n [some (vR (some (22, 0, a0))), some (vI 18)] rfl rfl <|
  k
theorem b_X12_keeps_12 {d : Nat} {r : PO × PM} {I : Nat → Nat → Int} {S : PS} {a0 : Nat} {x1 : Int} (kt : 540 ≤ x1 → Ev d mX12_keeps (40, [some (vR (some (22, 0, a0))), some (vI x1)], [], (I, S)) r) (kf : x1 < 540 → Ev d mX12_keeps (19, [some (vR (some (22, 0, a0))), some (vI x1)], [], (I, S)) r) : Ev d mX12_keeps (12, [some (vR (some (22, 0, a0))), some (vI x1)], [], (I, S)) r :=
  s_iload_n rfl rfl rfl <|
  s_sipush rfl rfl <|
  s_icmp_ge 40 rfl rfl kt kf
theorem b_X12_keeps_19 {d : Nat} {r : PO × PM} {I : Nat → Nat → Int} {S : PS} {a0 p1 q1 : Nat} {x1 : Int} (hr1 : S.1 a0 40 = some (0, q1, p1)) (ho2 : -2147483648 ≤ x1 - 18 ∧ x1 - 18 ≤ 2147483647) (hi3 : 0 ≤ x1 ∧ x1 < (q1 : Nat)) (hi4 : 0 ≤ x1 - 18 ∧ x1 - 18 < (q1 : Nat)) (ho5 : -2147483648 ≤ x1 + 1 ∧ x1 + 1 ≤ 2147483647) (k : Ev d mX12_keeps (12, [some (vR (some (22, 0, a0))), some (vI (x1 + 1))], [], ((up2 I p1 ((x1 - 18).toNat) (I p1 x1.toNat)), S)) r) : Ev d mX12_keeps (19, [some (vR (some (22, 0, a0))), some (vI x1)], [], (I, S)) r :=
  s_aload_n rfl rfl rfl <|
  s_getR rfl rfl rfl hr1 <|
  s_iload_n rfl rfl rfl <|
  s_bipush rfl rfl <|
  s_isubp rfl ho2 <|
  s_aload_n rfl rfl rfl <|
  s_getR rfl rfl rfl hr1 <|
  s_iload_n rfl rfl rfl <|
  s_iald rfl rfl hi3 <|
  s_iast rfl hi4 <|
  s_iincp [some (vR (some (22, 0, a0))), some (vI (x1 + 1))] rfl rfl ho5 rfl <|
  s_goto 12 rfl rfl k
theorem b_X12_keeps_40 {d : Nat} {r : PO × PM} {I : Nat → Nat → Int} {S : PS} {a0 : Nat} {x1 : Int} (ho1 : -2147483648 ≤ I a0 41 - 1 ∧ I a0 41 - 1 ≤ 2147483647) (k : Ev d mX12_keeps (50, [some (vR (some (22, 0, a0))), none], [], ((up2 I a0 41 (I a0 41 - 1)), S)) r) : Ev d mX12_keeps (40, [some (vR (some (22, 0, a0))), some (vI x1)], [], (I, S)) r :=
  s_aload_n rfl rfl rfl <|
  s_dup rfl rfl <|
  s_getI rfl rfl rfl <|
  s_iconst rfl rfl <|
  s_isubp rfl ho1 <|
  s_putI rfl rfl rfl <|
  (ev_forget [false, true] rfl k)
theorem b_X12_keeps_50 {d : Nat} {r : PO × PM} {I : Nat → Nat → Int} {S : PS} {a0 : Nat} (k : Ev d mX12_keeps (52, [some (vR (some (22, 0, a0))), some (vI 0)], [], (I, S)) r) : Ev d mX12_keeps (50, [some (vR (some (22, 0, a0))), none], [], (I, S)) r :=
  s_iconst rfl rfl <|
  s_istore_n [some (vR (some (22, 0, a0))), some (vI 0)] rfl rfl <|
  k
theorem b_X12_keeps_52 {d : Nat} {r : PO × PM} {I : Nat → Nat → Int} {S : PS} {a0 : Nat} {x1 : Int} (kt : 18 ≤ x1 → Ev d mX12_keeps (84, [some (vR (some (22, 0, a0))), some (vI x1)], [], (I, S)) r) (kf : x1 < 18 → Ev d mX12_keeps (58, [some (vR (some (22, 0, a0))), some (vI x1)], [], (I, S)) r) : Ev d mX12_keeps (52, [some (vR (some (22, 0, a0))), some (vI x1)], [], (I, S)) r :=
  s_iload_n rfl rfl rfl <|
  s_bipush rfl rfl <|
  s_icmp_ge 84 rfl rfl kt kf
theorem b_X12_keeps_58 {d : Nat} {r : PO × PM} {I : Nat → Nat → Int} {S : PS} {a0 p1 q1 p4 q4 : Nat} {x1 : Int} (hr1 : S.1 a0 40 = some (0, q1, p1)) (ho2 : -2147483648 ≤ 18 * (I a0 41) ∧ 18 * (I a0 41) ≤ 2147483647) (ho3 : -2147483648 ≤ (18 * (I a0 41)) + x1 ∧ (18 * (I a0 41)) + x1 ≤ 2147483647) (hr4 : S.1 a0 39 = some (0, q4, p4)) (hi5 : 0 ≤ x1 ∧ x1 < (q4 : Nat)) (hi6 : 0 ≤ (18 * (I a0 41)) + x1 ∧ (18 * (I a0 41)) + x1 < (q1 : Nat)) (ho7 : -2147483648 ≤ x1 + 1 ∧ x1 + 1 ≤ 2147483647) (k : Ev d mX12_keeps (52, [some (vR (some (22, 0, a0))), some (vI (x1 + 1))], [], ((up2 I p1 (((18 * (I a0 41)) + x1).toNat) (I p4 x1.toNat)), S)) r) : Ev d mX12_keeps (58, [some (vR (some (22, 0, a0))), some (vI x1)], [], (I, S)) r :=
  s_aload_n rfl rfl rfl <|
  s_getR rfl rfl rfl hr1 <|
  s_bipush rfl rfl <|
  s_aload_n rfl rfl rfl <|
  s_getI rfl rfl rfl <|
  s_imulp rfl ho2 <|
  s_iload_n rfl rfl rfl <|
  s_iaddp rfl ho3 <|
  s_aload_n rfl rfl rfl <|
  s_getR rfl rfl rfl hr4 <|
  s_iload_n rfl rfl rfl <|
  s_iald rfl rfl hi5 <|
  s_iast rfl hi6 <|
  s_iincp [some (vR (some (22, 0, a0))), some (vI (x1 + 1))] rfl rfl ho7 rfl <|
  s_goto 52 rfl rfl k
theorem b_X12_keeps_84 {d : Nat} {I : Nat → Nat → Int} {S : PS} {a0 : Nat} {x1 : Int} (ho1 : -2147483648 ≤ I a0 41 + 1 ∧ I a0 41 + 1 ≤ 2147483647) : Ev d mX12_keeps (84, [some (vR (some (22, 0, a0))), some (vI x1)], [], (I, S)) (.inl none, ((up2 I a0 41 (I a0 41 + 1)), S)) :=
  s_aload_n rfl rfl rfl <|
  s_dup rfl rfl <|
  s_getI rfl rfl rfl <|
  s_iconst rfl rfl <|
  s_iaddp rfl ho1 <|
  s_putI rfl rfl rfl <|
  s_vret rfl rfl
theorem b_X12_refuses_0 {d : Nat} {I : Nat → Nat → Int} {S : PS} {a0 p1 q1 : Nat} {x1 : Int} (hr1 : S.1 a0 5 = some (0, q1, p1)) (hi2 : 0 ≤ x1 ∧ x1 < (q1 : Nat)) (ho3 : -2147483648 ≤ I p1 x1.toNat + 1 ∧ I p1 x1.toNat + 1 ≤ 2147483647) (hi4 : 0 ≤ x1 ∧ x1 < (q1 : Nat)) : Ev d mX12_refuses (0, [some (vR (some (22, 0, a0))), some (vI x1)], [], (I, S)) (.inl (some (vI (-1))), ((up2 I p1 (x1.toNat) (I p1 x1.toNat + 1)), S)) :=
  s_aload_n rfl rfl rfl <|
  s_getR rfl rfl rfl hr1 <|
  s_iload_n rfl rfl rfl <|
  s_dup2 rfl rfl <|
  s_iald rfl rfl hi2 <|
  s_iconst rfl rfl <|
  s_iaddp rfl ho3 <|
  s_iast rfl hi4 <|
  s_iconst rfl rfl <|
  s_ret rfl rfl
theorem b_X12_undo_0 {d : Nat} {r : PO × PM} {I : Nat → Nat → Int} {S : PS} {a0 : Nat} (kt : (up2 I a0 0 0) a0 41 ≠ 0 → Ev d mX12_undo (14, [some (vR (some (22, 0, a0))), none], [], ((up2 I a0 0 0), S)) r) (kf : (up2 I a0 0 0) a0 41 = 0 → Ev d mX12_undo (12, [some (vR (some (22, 0, a0))), none], [], ((up2 I a0 0 0), S)) r) : Ev d mX12_undo (0, [some (vR (some (22, 0, a0))), none], [], (I, S)) r :=
  s_aload_n rfl rfl rfl <|
  s_iconst rfl rfl <|
  s_putI rfl rfl rfl <|
  s_aload_n rfl rfl rfl <|
  s_getI rfl rfl rfl <|
  s_if_ne 14 rfl rfl kt kf
theorem b_X12_undo_12 {d : Nat} {I : Nat → Nat → Int} {S : PS} {a0 : Nat} : Ev d mX12_undo (12, [some (vR (some (22, 0, a0))), none], [], (I, S)) (.inl (some (vI (-1))), (I, S)) :=
  s_iconst rfl rfl <|
  s_ret rfl rfl
theorem b_X12_undo_14 {d : Nat} {r : PO × PM} {I : Nat → Nat → Int} {S : PS} {a0 : Nat} (ho1 : -2147483648 ≤ I a0 41 - 1 ∧ I a0 41 - 1 ≤ 2147483647) (k : Ev d mX12_undo (26, [some (vR (some (22, 0, a0))), some (vI 0)], [], ((up2 I a0 41 (I a0 41 - 1)), S)) r) : Ev d mX12_undo (14, [some (vR (some (22, 0, a0))), none], [], (I, S)) r :=
  s_aload_n rfl rfl rfl <|
  s_dup rfl rfl <|
  s_getI rfl rfl rfl <|
  s_iconst rfl rfl <|
  s_isubp rfl ho1 <|
  s_putI rfl rfl rfl <|
  s_iconst rfl rfl <|
  s_istore_n [some (vR (some (22, 0, a0))), some (vI 0)] rfl rfl <|
  k
theorem b_X12_undo_26 {d : Nat} {r : PO × PM} {I : Nat → Nat → Int} {S : PS} {a0 : Nat} {x1 : Int} (kt : 18 ≤ x1 → Ev d mX12_undo (58, [some (vR (some (22, 0, a0))), some (vI x1)], [], (I, S)) r) (kf : x1 < 18 → Ev d mX12_undo (32, [some (vR (some (22, 0, a0))), some (vI x1)], [], (I, S)) r) : Ev d mX12_undo (26, [some (vR (some (22, 0, a0))), some (vI x1)], [], (I, S)) r :=
  s_iload_n rfl rfl rfl <|
  s_bipush rfl rfl <|
  s_icmp_ge 58 rfl rfl kt kf
theorem b_X12_undo_32 {d : Nat} {r : PO × PM} {I : Nat → Nat → Int} {S : PS} {a0 p1 q1 p2 q2 : Nat} {x1 : Int} (hr1 : S.1 a0 39 = some (0, q1, p1)) (hr2 : S.1 a0 40 = some (0, q2, p2)) (ho3 : -2147483648 ≤ 18 * (I a0 41) ∧ 18 * (I a0 41) ≤ 2147483647) (ho4 : -2147483648 ≤ (18 * (I a0 41)) + x1 ∧ (18 * (I a0 41)) + x1 ≤ 2147483647) (hi5 : 0 ≤ (18 * (I a0 41)) + x1 ∧ (18 * (I a0 41)) + x1 < (q2 : Nat)) (hi6 : 0 ≤ x1 ∧ x1 < (q1 : Nat)) (ho7 : -2147483648 ≤ x1 + 1 ∧ x1 + 1 ≤ 2147483647) (k : Ev d mX12_undo (26, [some (vR (some (22, 0, a0))), some (vI (x1 + 1))], [], ((up2 I p1 (x1.toNat) (I p2 ((18 * (I a0 41)) + x1).toNat)), S)) r) : Ev d mX12_undo (32, [some (vR (some (22, 0, a0))), some (vI x1)], [], (I, S)) r :=
  s_aload_n rfl rfl rfl <|
  s_getR rfl rfl rfl hr1 <|
  s_iload_n rfl rfl rfl <|
  s_aload_n rfl rfl rfl <|
  s_getR rfl rfl rfl hr2 <|
  s_bipush rfl rfl <|
  s_aload_n rfl rfl rfl <|
  s_getI rfl rfl rfl <|
  s_imulp rfl ho3 <|
  s_iload_n rfl rfl rfl <|
  s_iaddp rfl ho4 <|
  s_iald rfl rfl hi5 <|
  s_iast rfl hi6 <|
  s_iincp [some (vR (some (22, 0, a0))), some (vI (x1 + 1))] rfl rfl ho7 rfl <|
  s_goto 26 rfl rfl k
theorem b_X12_undo_58 {d : Nat} {I : Nat → Nat → Int} {S : PS} {a0 : Nat} {x1 : Int} : Ev d mX12_undo (58, [some (vR (some (22, 0, a0))), some (vI x1)], [], (I, S)) (.inl (some (vI (I a0 41))), (I, S)) :=
  s_aload_n rfl rfl rfl <|
  s_getI rfl rfl rfl <|
  s_ret rfl rfl
theorem b_X12_tries_0 {d : Nat} {r : PO × PM} {I : Nat → Nat → Int} {S : PS} {a0 : Nat} (k : Ev d mX12_tries (2, [some (vR (some (22, 0, a0))), some (vI 0)], [], (I, S)) r) : Ev d mX12_tries (0, [some (vR (some (22, 0, a0))), none], [], (I, S)) r :=
  s_iconst rfl rfl <|
  s_istore_n [some (vR (some (22, 0, a0))), some (vI 0)] rfl rfl <|
  k
theorem b_X12_tries_2 {d : Nat} {r : PO × PM} {I : Nat → Nat → Int} {S : PS} {a0 : Nat} {x1 : Int} (kt : 18 ≤ x1 → Ev d mX12_tries (29, [some (vR (some (22, 0, a0))), some (vI x1)], [], (I, S)) r) (kf : x1 < 18 → Ev d mX12_tries (8, [some (vR (some (22, 0, a0))), some (vI x1)], [], (I, S)) r) : Ev d mX12_tries (2, [some (vR (some (22, 0, a0))), some (vI x1)], [], (I, S)) r :=
  s_iload_n rfl rfl rfl <|
  s_bipush rfl rfl <|
  s_icmp_ge 29 rfl rfl kt kf
theorem b_X12_tries_8 {d : Nat} {r : PO × PM} {I : Nat → Nat → Int} {S : PS} {a0 p1 q1 : Nat} {x1 : Int} (hr1 : S.1 a0 39 = some (0, q1, p1)) (ho2 : -2147483648 ≤ 18 + x1 ∧ 18 + x1 ≤ 2147483647) (hi3 : 0 ≤ x1 ∧ x1 < (q1 : Nat)) (hi4 : 0 ≤ 18 + x1 ∧ 18 + x1 < (q1 : Nat)) (ho5 : -2147483648 ≤ x1 + 1 ∧ x1 + 1 ≤ 2147483647) (k : Ev d mX12_tries (2, [some (vR (some (22, 0, a0))), some (vI (x1 + 1))], [], ((up2 I p1 ((18 + x1).toNat) (I p1 x1.toNat)), S)) r) : Ev d mX12_tries (8, [some (vR (some (22, 0, a0))), some (vI x1)], [], (I, S)) r :=
  s_aload_n rfl rfl rfl <|
  s_getR rfl rfl rfl hr1 <|
  s_bipush rfl rfl <|
  s_iload_n rfl rfl rfl <|
  s_iaddp rfl ho2 <|
  s_aload_n rfl rfl rfl <|
  s_getR rfl rfl rfl hr1 <|
  s_iload_n rfl rfl rfl <|
  s_iald rfl rfl hi3 <|
  s_iast rfl hi4 <|
  s_iincp [some (vR (some (22, 0, a0))), some (vI (x1 + 1))] rfl rfl ho5 rfl <|
  s_goto 2 rfl rfl k
theorem b_X12_tries_29 {d : Nat} {I : Nat → Nat → Int} {S : PS} {a0 : Nat} {x1 : Int} : Ev d mX12_tries (29, [some (vR (some (22, 0, a0))), some (vI x1)], [], (I, S)) (.inl none, (I, S)) :=
  s_vret rfl rfl
theorem b_X12_degree_0 {d : Nat} {I : Nat → Nat → Int} {S : PS} {a0 p1 q1 : Nat} {x1 : Int} (hr1 : S.1 a0 21 = some (0, q1, p1)) (ho2 : -2147483648 ≤ 10 * x1 ∧ 10 * x1 ≤ 2147483647) (hi3 : 0 ≤ 10 * x1 ∧ 10 * x1 < (q1 : Nat)) : Ev d mX12_degree (0, [some (vR (some (22, 0, a0))), some (vI x1)], [], (I, S)) (.inl (some (vI (I p1 (10 * x1).toNat))), (I, S)) :=
  s_aload_n rfl rfl rfl <|
  s_getR rfl rfl rfl hr1 <|
  s_bipush rfl rfl <|
  s_iload_n rfl rfl rfl <|
  s_imulp rfl ho2 <|
  s_iald rfl rfl hi3 <|
  s_ret rfl rfl
theorem b_X12_nearOnes_0 {d : Nat} {r : PO × PM} {I : Nat → Nat → Int} {S : PS} {a0 : Nat} {x1 : Int} (k : Ev d mX12_nearOnes (4, [some (vR (some (22, 0, a0))), some (vI x1), some (vI 0), some (vI 0)], [], (I, S)) r) : Ev d mX12_nearOnes (0, [some (vR (some (22, 0, a0))), some (vI x1), none, none], [], (I, S)) r :=
  s_iconst rfl rfl <|
  s_istore_n [some (vR (some (22, 0, a0))), some (vI x1), some (vI 0), none] rfl rfl <|
  s_iconst rfl rfl <|
  s_istore_n [some (vR (some (22, 0, a0))), some (vI x1), some (vI 0), some (vI 0)] rfl rfl <|
  k
theorem b_X12_nearOnes_4 {d : Nat} {r : PO × PM} {I : Nat → Nat → Int} {S : PS} {a0 : Nat} {x1 x2 x3 z : Int} {I1 : Nat → Nat → Int} {S1 : PS} (c : Ca d mX12_degree [vR (some (22, 0, a0)), vI x1] (I, S) (.inl (some (vI z))) (I1, S1)) (k : Ev (d + 1) mX12_nearOnes (10, [some (vR (some (22, 0, a0))), some (vI x1), some (vI x2), some (vI x3)], [vI z, vI x3], (I1, S1)) r) : Ev (d + 1) mX12_nearOnes (4, [some (vR (some (22, 0, a0))), some (vI x1), some (vI x2), some (vI x3)], [], (I, S)) r :=
  s_iload_n rfl rfl rfl <|
  s_aload_n rfl rfl rfl <|
  s_iload_n rfl rfl rfl <|
  s_cvI rfl rfl rfl rfl rfl c k
theorem b_X12_nearOnes_10 {d : Nat} {r : PO × PM} {I : Nat → Nat → Int} {S : PS} {a0 : Nat} {x1 x2 x3 xs0 xs1 : Int} (kt : xs1 ≤ xs0 → Ev d mX12_nearOnes (37, [some (vR (some (22, 0, a0))), some (vI x1), some (vI x2), some (vI x3)], [], (I, S)) r) (kf : xs0 < xs1 → Ev d mX12_nearOnes (13, [some (vR (some (22, 0, a0))), some (vI x1), some (vI x2), some (vI x3)], [], (I, S)) r) : Ev d mX12_nearOnes (10, [some (vR (some (22, 0, a0))), some (vI x1), some (vI x2), some (vI x3)], [vI xs1, vI xs0], (I, S)) r :=
  s_icmp_ge 37 rfl rfl kt kf
theorem b_X12_nearOnes_13 {d : Nat} {r : PO × PM} {I : Nat → Nat → Int} {S : PS} {a0 p1 q1 : Nat} {x1 x2 x3 : Int} (hr1 : S.1 a0 21 = some (0, q1, p1)) (ho2 : -2147483648 ≤ 10 * x1 ∧ 10 * x1 ≤ 2147483647) (ho3 : -2147483648 ≤ (10 * x1) + 1 ∧ (10 * x1) + 1 ≤ 2147483647) (ho4 : -2147483648 ≤ ((10 * x1) + 1) + x3 ∧ ((10 * x1) + 1) + x3 ≤ 2147483647) (hi5 : 0 ≤ ((10 * x1) + 1) + x3 ∧ ((10 * x1) + 1) + x3 < (q1 : Nat)) (ho6 : -2147483648 ≤ x3 + 1 ∧ x3 + 1 ≤ 2147483647) (k : Ev d mX12_nearOnes (4, [some (vR (some (22, 0, a0))), some (vI x1), some (vI (p_or x2 (p_shl 1 (I p1 (((10 * x1) + 1) + x3).toNat)))), some (vI (x3 + 1))], [], (I, S)) r) : Ev d mX12_nearOnes (13, [some (vR (some (22, 0, a0))), some (vI x1), some (vI x2), some (vI x3)], [], (I, S)) r :=
  s_iload_n rfl rfl rfl <|
  s_iconst rfl rfl <|
  s_aload_n rfl rfl rfl <|
  s_getR rfl rfl rfl hr1 <|
  s_bipush rfl rfl <|
  s_iload_n rfl rfl rfl <|
  s_imulp rfl ho2 <|
  s_iconst rfl rfl <|
  s_iaddp rfl ho3 <|
  s_iload_n rfl rfl rfl <|
  s_iaddp rfl ho4 <|
  s_iald rfl rfl hi5 <|
  s_ishl rfl <|
  s_ior rfl <|
  s_istore_n [some (vR (some (22, 0, a0))), some (vI x1), some (vI (p_or x2 (p_shl 1 (I p1 (((10 * x1) + 1) + x3).toNat)))), some (vI x3)] rfl rfl <|
  s_iincp [some (vR (some (22, 0, a0))), some (vI x1), some (vI (p_or x2 (p_shl 1 (I p1 (((10 * x1) + 1) + x3).toNat)))), some (vI (x3 + 1))] rfl rfl ho6 rfl <|
  s_goto 4 rfl rfl k
theorem b_X12_nearOnes_37 {d : Nat} {I : Nat → Nat → Int} {S : PS} {a0 : Nat} {x1 x2 x3 : Int} : Ev d mX12_nearOnes (37, [some (vR (some (22, 0, a0))), some (vI x1), some (vI x2), some (vI x3)], [], (I, S)) (.inl (some (vI x2)), (I, S)) :=
  s_iload_n rfl rfl rfl <|
  s_ret rfl rfl
theorem b_X12_freeFor_0 {d : Nat} {r : PO × PM} {I : Nat → Nat → Int} {S : PS} {a0 : Nat} {x1 x2 : Int} (k : Ev d mX12_freeFor (6, [some (vR (some (22, 0, a0))), some (vI x1), some (vI x2), some (vI 15), some (vI 0), none], [], (I, S)) r) : Ev d mX12_freeFor (0, [some (vR (some (22, 0, a0))), some (vI x1), some (vI x2), none, none, none], [], (I, S)) r :=
  s_bipush rfl rfl <|
  s_istore_n [some (vR (some (22, 0, a0))), some (vI x1), some (vI x2), some (vI 15), none, none] rfl rfl <|
  s_iconst rfl rfl <|
  s_istore [some (vR (some (22, 0, a0))), some (vI x1), some (vI x2), some (vI 15), some (vI 0), none] rfl rfl <|
  k
theorem b_X12_freeFor_6 {d : Nat} {r : PO × PM} {I : Nat → Nat → Int} {S : PS} {a0 : Nat} {x1 x2 x3 x4 z : Int} {I1 : Nat → Nat → Int} {S1 : PS} (c : Ca d mX12_degree [vR (some (22, 0, a0)), vI x2] (I, S) (.inl (some (vI z))) (I1, S1)) (k : Ev (d + 1) mX12_freeFor (13, [some (vR (some (22, 0, a0))), some (vI x1), some (vI x2), some (vI x3), some (vI x4), none], [vI z, vI x4], (I1, S1)) r) : Ev (d + 1) mX12_freeFor (6, [some (vR (some (22, 0, a0))), some (vI x1), some (vI x2), some (vI x3), some (vI x4), none], [], (I, S)) r :=
  s_iload rfl rfl rfl <|
  s_aload_n rfl rfl rfl <|
  s_iload_n rfl rfl rfl <|
  s_cvI rfl rfl rfl rfl rfl c k
theorem b_X12_freeFor_13 {d : Nat} {r : PO × PM} {I : Nat → Nat → Int} {S : PS} {a0 : Nat} {x1 x2 x3 x4 xs0 xs1 : Int} (kt : xs1 ≤ xs0 → Ev d mX12_freeFor (60, [some (vR (some (22, 0, a0))), some (vI x1), some (vI x2), some (vI x3), some (vI x4), none], [], (I, S)) r) (kf : xs0 < xs1 → Ev d mX12_freeFor (16, [some (vR (some (22, 0, a0))), some (vI x1), some (vI x2), some (vI x3), some (vI x4), none], [], (I, S)) r) : Ev d mX12_freeFor (13, [some (vR (some (22, 0, a0))), some (vI x1), some (vI x2), some (vI x3), some (vI x4), none], [vI xs1, vI xs0], (I, S)) r :=
  s_icmp_ge 60 rfl rfl kt kf
theorem b_X12_freeFor_16 {d : Nat} {r : PO × PM} {I : Nat → Nat → Int} {S : PS} {a0 p1 q1 p2 q2 : Nat} {x1 x2 x3 x4 : Int} (hr1 : S.1 a0 39 = some (0, q1, p1)) (hr2 : S.1 a0 21 = some (0, q2, p2)) (ho3 : -2147483648 ≤ 10 * x2 ∧ 10 * x2 ≤ 2147483647) (ho4 : -2147483648 ≤ (10 * x2) + 1 ∧ (10 * x2) + 1 ≤ 2147483647) (ho5 : -2147483648 ≤ ((10 * x2) + 1) + x4 ∧ ((10 * x2) + 1) + x4 ≤ 2147483647) (hi6 : 0 ≤ ((10 * x2) + 1) + x4 ∧ ((10 * x2) + 1) + x4 < (q2 : Nat)) (ho7 : -2147483648 ≤ x1 + (I p2 (((10 * x2) + 1) + x4).toNat) ∧ x1 + (I p2 (((10 * x2) + 1) + x4).toNat) ≤ 2147483647) (hi8 : 0 ≤ x1 + (I p2 (((10 * x2) + 1) + x4).toNat) ∧ x1 + (I p2 (((10 * x2) + 1) + x4).toNat) < (q1 : Nat)) (kt : I p1 (x1 + (I p2 (((10 * x2) + 1) + x4).toNat)).toNat = (-1) → Ev d mX12_freeFor (54, [some (vR (some (22, 0, a0))), some (vI x1), some (vI x2), some (vI x3), some (vI x4), some (vI (I p1 (x1 + (I p2 (((10 * x2) + 1) + x4).toNat)).toNat))], [], (I, S)) r) (kf : I p1 (x1 + (I p2 (((10 * x2) + 1) + x4).toNat)).toNat ≠ (-1) → Ev d mX12_freeFor (45, [some (vR (some (22, 0, a0))), some (vI x1), some (vI x2), some (vI x3), some (vI x4), some (vI (I p1 (x1 + (I p2 (((10 * x2) + 1) + x4).toNat)).toNat))], [], (I, S)) r) : Ev d mX12_freeFor (16, [some (vR (some (22, 0, a0))), some (vI x1), some (vI x2), some (vI x3), some (vI x4), none], [], (I, S)) r :=
  s_aload_n rfl rfl rfl <|
  s_getR rfl rfl rfl hr1 <|
  s_iload_n rfl rfl rfl <|
  s_aload_n rfl rfl rfl <|
  s_getR rfl rfl rfl hr2 <|
  s_bipush rfl rfl <|
  s_iload_n rfl rfl rfl <|
  s_imulp rfl ho3 <|
  s_iconst rfl rfl <|
  s_iaddp rfl ho4 <|
  s_iload rfl rfl rfl <|
  s_iaddp rfl ho5 <|
  s_iald rfl rfl hi6 <|
  s_iaddp rfl ho7 <|
  s_iald rfl rfl hi8 <|
  s_istore [some (vR (some (22, 0, a0))), some (vI x1), some (vI x2), some (vI x3), some (vI x4), some (vI (I p1 (x1 + (I p2 (((10 * x2) + 1) + x4).toNat)).toNat))] rfl rfl <|
  s_iload rfl rfl rfl <|
  s_iconst rfl rfl <|
  s_icmp_eq 54 rfl rfl kt kf
theorem b_X12_freeFor_45 {d : Nat} {r : PO × PM} {I : Nat → Nat → Int} {S : PS} {a0 : Nat} {x1 x2 x3 x4 x5 : Int} (k : Ev d mX12_freeFor (54, [some (vR (some (22, 0, a0))), some (vI x1), some (vI x2), some (vI (p_and x3 (p_xor (p_shl 1 x5) (-1)))), some (vI x4), some (vI x5)], [], (I, S)) r) : Ev d mX12_freeFor (45, [some (vR (some (22, 0, a0))), some (vI x1), some (vI x2), some (vI x3), some (vI x4), some (vI x5)], [], (I, S)) r :=
  s_iload_n rfl rfl rfl <|
  s_iconst rfl rfl <|
  s_iload rfl rfl rfl <|
  s_ishl rfl <|
  s_iconst rfl rfl <|
  s_ixor rfl <|
  s_iand rfl <|
  s_istore_n [some (vR (some (22, 0, a0))), some (vI x1), some (vI x2), some (vI (p_and x3 (p_xor (p_shl 1 x5) (-1)))), some (vI x4), some (vI x5)] rfl rfl <|
  k
theorem b_X12_freeFor_54 {d : Nat} {r : PO × PM} {I : Nat → Nat → Int} {S : PS} {a0 : Nat} {x1 x2 x3 x4 x5 : Int} (ho1 : -2147483648 ≤ x4 + 1 ∧ x4 + 1 ≤ 2147483647) (k : Ev d mX12_freeFor (6, [some (vR (some (22, 0, a0))), some (vI x1), some (vI x2), some (vI x3), some (vI (x4 + 1)), none], [], (I, S)) r) : Ev d mX12_freeFor (54, [some (vR (some (22, 0, a0))), some (vI x1), some (vI x2), some (vI x3), some (vI x4), some (vI x5)], [], (I, S)) r :=
  s_iincp [some (vR (some (22, 0, a0))), some (vI x1), some (vI x2), some (vI x3), some (vI (x4 + 1)), some (vI x5)] rfl rfl ho1 rfl <|
  s_goto 6 rfl rfl (ev_forget [false, false, false, false, false, true] rfl k)
theorem b_X12_freeFor_60 {d : Nat} {I : Nat → Nat → Int} {S : PS} {a0 : Nat} {x1 x2 x3 x4 : Int} : Ev d mX12_freeFor (60, [some (vR (some (22, 0, a0))), some (vI x1), some (vI x2), some (vI x3), some (vI x4), none], [], (I, S)) (.inl (some (vI x3)), (I, S)) :=
  s_iload_n rfl rfl rfl <|
  s_ret rfl rfl
theorem b_X12_isFree_0 {d : Nat} {r : PO × PM} {I : Nat → Nat → Int} {S : PS} {a0 : Nat} {x1 x2 x3 z : Int} {I1 : Nat → Nat → Int} {S1 : PS} (c : Ca d mX12_within [vI x3, vI 0, vI 3] (I, S) (.inl (some (vI z))) (I1, S1)) (k : Ev (d + 1) mX12_isFree (6, [some (vR (some (22, 0, a0))), some (vI x1), some (vI x2), some (vI x3)], [vI z], (I1, S1)) r) : Ev (d + 1) mX12_isFree (0, [some (vR (some (22, 0, a0))), some (vI x1), some (vI x2), some (vI x3)], [], (I, S)) r :=
  s_iload_n rfl rfl rfl <|
  s_iconst rfl rfl <|
  s_iconst rfl rfl <|
  s_csI rfl rfl rfl rfl rfl rfl c k
theorem b_X12_isFree_6 {d : Nat} {r : PO × PM} {I : Nat → Nat → Int} {S : PS} {a0 : Nat} {x1 x2 x3 xs0 : Int} (kt : xs0 = 0 → Ev d mX12_isFree (27, [some (vR (some (22, 0, a0))), some (vI x1), some (vI x2), some (vI x3)], [], (I, S)) r) (kf : xs0 ≠ 0 → Ev d mX12_isFree (9, [some (vR (some (22, 0, a0))), some (vI x1), some (vI x2), some (vI x3)], [], (I, S)) r) : Ev d mX12_isFree (6, [some (vR (some (22, 0, a0))), some (vI x1), some (vI x2), some (vI x3)], [vI xs0], (I, S)) r :=
  s_if_eq 27 rfl rfl kt kf
theorem b_X12_isFree_9 {d : Nat} {r : PO × PM} {I : Nat → Nat → Int} {S : PS} {a0 : Nat} {x1 x2 x3 z : Int} {I1 : Nat → Nat → Int} {S1 : PS} (c : Ca d mX12_freeFor [vR (some (22, 0, a0)), vI x1, vI x2] (I, S) (.inl (some (vI z))) (I1, S1)) (k : Ev (d + 1) mX12_isFree (15, [some (vR (some (22, 0, a0))), some (vI x1), some (vI x2), some (vI x3)], [vI z], (I1, S1)) r) : Ev (d + 1) mX12_isFree (9, [some (vR (some (22, 0, a0))), some (vI x1), some (vI x2), some (vI x3)], [], (I, S)) r :=
  s_aload_n rfl rfl rfl <|
  s_iload_n rfl rfl rfl <|
  s_iload_n rfl rfl rfl <|
  s_cvI rfl rfl rfl rfl rfl c k
theorem b_X12_isFree_15 {d : Nat} {r : PO × PM} {I : Nat → Nat → Int} {S : PS} {a0 : Nat} {x1 x2 x3 xs0 : Int} (kt : p_and (p_shr xs0 x3) 1 ≠ 1 → Ev d mX12_isFree (27, [some (vR (some (22, 0, a0))), some (vI x1), some (vI x2), some (vI x3)], [], (I, S)) r) (kf : p_and (p_shr xs0 x3) 1 = 1 → Ev d mX12_isFree (23, [some (vR (some (22, 0, a0))), some (vI x1), some (vI x2), some (vI x3)], [], (I, S)) r) : Ev d mX12_isFree (15, [some (vR (some (22, 0, a0))), some (vI x1), some (vI x2), some (vI x3)], [vI xs0], (I, S)) r :=
  s_iload_n rfl rfl rfl <|
  s_ishr rfl <|
  s_iconst rfl rfl <|
  s_iand rfl <|
  s_iconst rfl rfl <|
  s_icmp_ne 27 rfl rfl kt kf
theorem b_X12_isFree_23 {d : Nat} {r : PO × PM} {I : Nat → Nat → Int} {S : PS} {a0 : Nat} {x1 x2 x3 : Int} (k : Ev d mX12_isFree (28, [some (vR (some (22, 0, a0))), some (vI x1), some (vI x2), some (vI x3)], [vI 1], (I, S)) r) : Ev d mX12_isFree (23, [some (vR (some (22, 0, a0))), some (vI x1), some (vI x2), some (vI x3)], [], (I, S)) r :=
  s_iconst rfl rfl <|
  s_goto 28 rfl rfl k
theorem b_X12_isFree_27 {d : Nat} {r : PO × PM} {I : Nat → Nat → Int} {S : PS} {a0 : Nat} {x1 x2 x3 : Int} (k : Ev d mX12_isFree (28, [some (vR (some (22, 0, a0))), some (vI x1), some (vI x2), some (vI x3)], [vI 0], (I, S)) r) : Ev d mX12_isFree (27, [some (vR (some (22, 0, a0))), some (vI x1), some (vI x2), some (vI x3)], [], (I, S)) r :=
  s_iconst rfl rfl <|
  k
theorem b_X12_isFree_28 {d : Nat} {I : Nat → Nat → Int} {S : PS} {a0 : Nat} {x1 x2 x3 xs0 : Int} (hb1 : xs0 = 0 ∨ xs0 = 1) : Ev d mX12_isFree (28, [some (vR (some (22, 0, a0))), some (vI x1), some (vI x2), some (vI x3)], [vI xs0], (I, S)) (.inl (some (vI xs0)), (I, S)) :=
  s_retz rfl rfl hb1
theorem b_X12_laysNear_0 {d : Nat} {r : PO × PM} {I : Nat → Nat → Int} {S : PS} {a0 : Nat} {x1 : Int} (k : Ev d mX12_laysNear (2, [some (vR (some (22, 0, a0))), some (vI x1), some (vI 0)], [], (I, S)) r) : Ev d mX12_laysNear (0, [some (vR (some (22, 0, a0))), some (vI x1), none], [], (I, S)) r :=
  s_iconst rfl rfl <|
  s_istore_n [some (vR (some (22, 0, a0))), some (vI x1), some (vI 0)] rfl rfl <|
  k
theorem b_X12_laysNear_2 {d : Nat} {r : PO × PM} {I : Nat → Nat → Int} {S : PS} {a0 : Nat} {x1 x2 z : Int} {I1 : Nat → Nat → Int} {S1 : PS} (c : Ca d mX12_degree [vR (some (22, 0, a0)), vI x1] (I, S) (.inl (some (vI z))) (I1, S1)) (k : Ev (d + 1) mX12_laysNear (8, [some (vR (some (22, 0, a0))), some (vI x1), some (vI x2)], [vI z, vI x2], (I1, S1)) r) : Ev (d + 1) mX12_laysNear (2, [some (vR (some (22, 0, a0))), some (vI x1), some (vI x2)], [], (I, S)) r :=
  s_iload_n rfl rfl rfl <|
  s_aload_n rfl rfl rfl <|
  s_iload_n rfl rfl rfl <|
  s_cvI rfl rfl rfl rfl rfl c k
theorem b_X12_laysNear_8 {d : Nat} {r : PO × PM} {I : Nat → Nat → Int} {S : PS} {a0 : Nat} {x1 x2 xs0 xs1 : Int} (kt : xs1 ≤ xs0 → Ev d mX12_laysNear (40, [some (vR (some (22, 0, a0))), some (vI x1), some (vI x2)], [], (I, S)) r) (kf : xs0 < xs1 → Ev d mX12_laysNear (11, [some (vR (some (22, 0, a0))), some (vI x1), some (vI x2)], [], (I, S)) r) : Ev d mX12_laysNear (8, [some (vR (some (22, 0, a0))), some (vI x1), some (vI x2)], [vI xs1, vI xs0], (I, S)) r :=
  s_icmp_ge 40 rfl rfl kt kf
theorem b_X12_laysNear_11 {d : Nat} {r : PO × PM} {I : Nat → Nat → Int} {S : PS} {a0 p1 q1 p2 q2 : Nat} {x1 x2 z : Int} {I1 : Nat → Nat → Int} {S1 : PS} (hr1 : S.1 a0 38 = some (0, q1, p1)) (hr2 : S.1 a0 21 = some (0, q2, p2)) (ho3 : -2147483648 ≤ 10 * x1 ∧ 10 * x1 ≤ 2147483647) (ho4 : -2147483648 ≤ (10 * x1) + 1 ∧ (10 * x1) + 1 ≤ 2147483647) (ho5 : -2147483648 ≤ ((10 * x1) + 1) + x2 ∧ ((10 * x1) + 1) + x2 ≤ 2147483647) (hi6 : 0 ≤ ((10 * x1) + 1) + x2 ∧ ((10 * x1) + 1) + x2 < (q2 : Nat)) (c : Ca d mX12_degree [vR (some (22, 0, a0)), vI (I p2 (((10 * x1) + 1) + x2).toNat)] (I, S) (.inl (some (vI z))) (I1, S1)) (k : Ev (d + 1) mX12_laysNear (33, [some (vR (some (22, 0, a0))), some (vI x1), some (vI x2)], [vI z, vI x2, vR (some (0, q1, p1))], (I1, S1)) r) : Ev (d + 1) mX12_laysNear (11, [some (vR (some (22, 0, a0))), some (vI x1), some (vI x2)], [], (I, S)) r :=
  s_aload_n rfl rfl rfl <|
  s_getR rfl rfl rfl hr1 <|
  s_iload_n rfl rfl rfl <|
  s_aload_n rfl rfl rfl <|
  s_aload_n rfl rfl rfl <|
  s_getR rfl rfl rfl hr2 <|
  s_bipush rfl rfl <|
  s_iload_n rfl rfl rfl <|
  s_imulp rfl ho3 <|
  s_iconst rfl rfl <|
  s_iaddp rfl ho4 <|
  s_iload_n rfl rfl rfl <|
  s_iaddp rfl ho5 <|
  s_iald rfl rfl hi6 <|
  s_cvI rfl rfl rfl rfl rfl c k
theorem b_X12_laysNear_33 {d : Nat} {r : PO × PM} {I : Nat → Nat → Int} {S : PS} {a0 ns0 as0 : Nat} {x1 x2 xs1 xs2 : Int} (hi1 : 0 ≤ xs1 ∧ xs1 < (ns0 : Nat)) (ho2 : -2147483648 ≤ x2 + 1 ∧ x2 + 1 ≤ 2147483647) (k : Ev d mX12_laysNear (2, [some (vR (some (22, 0, a0))), some (vI x1), some (vI (x2 + 1))], [], ((up2 I as0 (xs1.toNat) xs2), S)) r) : Ev d mX12_laysNear (33, [some (vR (some (22, 0, a0))), some (vI x1), some (vI x2)], [vI xs2, vI xs1, vR (some (0, ns0, as0))], (I, S)) r :=
  s_iast rfl hi1 <|
  s_iincp [some (vR (some (22, 0, a0))), some (vI x1), some (vI (x2 + 1))] rfl rfl ho2 rfl <|
  s_goto 2 rfl rfl k
theorem b_X12_laysNear_40 {d : Nat} {I : Nat → Nat → Int} {S : PS} {a0 : Nat} {x1 x2 : Int} : Ev d mX12_laysNear (40, [some (vR (some (22, 0, a0))), some (vI x1), some (vI x2)], [], (I, S)) (.inl none, (I, S)) :=
  s_vret rfl rfl
theorem b_X12_behind_0 {d : Nat} {r : PO × PM} {I : Nat → Nat → Int} {S : PS} {a0 : Nat} {x1 x2 : Int} {I1 : Nat → Nat → Int} {S1 : PS} (c : Ca d mX12_laysNear [vR (some (22, 0, a0)), vI x2] (I, S) (.inl none) (I1, S1)) (k : Ev (d + 1) mX12_behind (5, [some (vR (some (22, 0, a0))), some (vI x1), some (vI x2)], [], (I1, S1)) r) : Ev (d + 1) mX12_behind (0, [some (vR (some (22, 0, a0))), some (vI x1), some (vI x2)], [], (I, S)) r :=
  s_aload_n rfl rfl rfl <|
  s_iload_n rfl rfl rfl <|
  s_cvV rfl rfl rfl rfl rfl c k
theorem b_X12_behind_5 {d : Nat} {r : PO × PM} {I : Nat → Nat → Int} {S : PS} {a0 : Nat} {x1 x2 z : Int} {I1 : Nat → Nat → Int} {S1 : PS} (c : Ca d mX12_degree [vR (some (22, 0, a0)), vI x2] (I, S) (.inl (some (vI z))) (I1, S1)) (k : Ev (d + 1) mX12_behind (12, [some (vR (some (22, 0, a0))), some (vI x1), some (vI x2)], [vI z, vI x1, vR (some (22, 0, a0))], (I1, S1)) r) : Ev (d + 1) mX12_behind (5, [some (vR (some (22, 0, a0))), some (vI x1), some (vI x2)], [], (I, S)) r :=
  s_aload_n rfl rfl rfl <|
  s_iload_n rfl rfl rfl <|
  s_aload_n rfl rfl rfl <|
  s_iload_n rfl rfl rfl <|
  s_cvI rfl rfl rfl rfl rfl c k
theorem b_X12_behind_12 {d : Nat} {r : PO × PM} {I : Nat → Nat → Int} {S : PS} {a0 as0 : Nat} {x1 x2 xs1 xs2 z : Int} {I1 : Nat → Nat → Int} {S1 : PS} (c : Ca d mX12_chargeBy [vR (some (22, 0, as0)), vI xs1, vI xs2] (I, S) (.inl (some (vI z))) (I1, S1)) (k : Ev (d + 1) mX12_behind (15, [some (vR (some (22, 0, a0))), some (vI x1), some (vI x2)], [vI z], (I1, S1)) r) : Ev (d + 1) mX12_behind (12, [some (vR (some (22, 0, a0))), some (vI x1), some (vI x2)], [vI xs2, vI xs1, vR (some (22, 0, as0))], (I, S)) r :=
  s_cvI rfl rfl rfl rfl rfl c k
theorem b_X12_behind_15 {d : Nat} {I : Nat → Nat → Int} {S : PS} {a0 : Nat} {x1 x2 xs0 : Int} : Ev d mX12_behind (15, [some (vR (some (22, 0, a0))), some (vI x1), some (vI x2)], [vI xs0], (I, S)) (.inl (some (vI xs0)), (I, S)) :=
  s_ret rfl rfl
theorem b_X12_holdsAt_0 {d : Nat} {r : PO × PM} {I : Nat → Nat → Int} {S : PS} {a0 : Nat} {x1 : Int} {I1 : Nat → Nat → Int} {S1 : PS} (c : Ca d mX12_laysNear [vR (some (22, 0, a0)), vI x1] (I, S) (.inl none) (I1, S1)) (k : Ev (d + 1) mX12_holdsAt (5, [some (vR (some (22, 0, a0))), some (vI x1)], [], (I1, S1)) r) : Ev (d + 1) mX12_holdsAt (0, [some (vR (some (22, 0, a0))), some (vI x1)], [], (I, S)) r :=
  s_aload_n rfl rfl rfl <|
  s_iload_n rfl rfl rfl <|
  s_cvV rfl rfl rfl rfl rfl c k
theorem b_X12_holdsAt_5 {d : Nat} {r : PO × PM} {I : Nat → Nat → Int} {S : PS} {a0 : Nat} {x1 z : Int} {I1 : Nat → Nat → Int} {S1 : PS} (c : Ca d mX12_degree [vR (some (22, 0, a0)), vI x1] (I, S) (.inl (some (vI z))) (I1, S1)) (k : Ev (d + 1) mX12_holdsAt (11, [some (vR (some (22, 0, a0))), some (vI x1)], [vI z, vR (some (22, 0, a0))], (I1, S1)) r) : Ev (d + 1) mX12_holdsAt (5, [some (vR (some (22, 0, a0))), some (vI x1)], [], (I, S)) r :=
  s_aload_n rfl rfl rfl <|
  s_aload_n rfl rfl rfl <|
  s_iload_n rfl rfl rfl <|
  s_cvI rfl rfl rfl rfl rfl c k
theorem b_X12_holdsAt_11 {d : Nat} {r : PO × PM} {I : Nat → Nat → Int} {S : PS} {a0 as0 : Nat} {x1 xs1 z : Int} {I1 : Nat → Nat → Int} {S1 : PS} (c : Ca d mX12_holds [vR (some (22, 0, as0)), vI xs1] (I, S) (.inl (some (vI z))) (I1, S1)) (k : Ev (d + 1) mX12_holdsAt (14, [some (vR (some (22, 0, a0))), some (vI x1)], [vI z], (I1, S1)) r) : Ev (d + 1) mX12_holdsAt (11, [some (vR (some (22, 0, a0))), some (vI x1)], [vI xs1, vR (some (22, 0, as0))], (I, S)) r :=
  s_cvI rfl rfl rfl rfl rfl c k
theorem b_X12_holdsAt_14 {d : Nat} {I : Nat → Nat → Int} {S : PS} {a0 : Nat} {x1 xs0 : Int} : Ev d mX12_holdsAt (14, [some (vR (some (22, 0, a0))), some (vI x1)], [vI xs0], (I, S)) (.inl (some (vI xs0)), (I, S)) :=
  s_ret rfl rfl
end
