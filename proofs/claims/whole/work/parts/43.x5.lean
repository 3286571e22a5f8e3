noncomputable section
theorem b_X5_read_0 {d : Nat} {r : PO × PM} {I : Nat → Nat → Int} {S : PS} {a0 a1 : Nat} {I1 : Nat → Nat → Int} {S1 : PS} (c : Ca d mX0_clear [vR (some (11, 0, a1))] (I, S) (.inl none) (I1, S1)) (k : Ev (d + 1) mX5_read (4, [some (vR (some (20, 0, a0))), some (vR (some (11, 0, a1))), none, none], [], (I1, S1)) r) : Ev (d + 1) mX5_read (0, [some (vR (some (20, 0, a0))), some (vR (some (11, 0, a1))), none, none], [], (I, S)) r :=
  s_aload_n rfl rfl rfl <|
  s_cvV rfl rfl rfl rfl rfl c k
theorem b_X5_read_4 {d : Nat} {r : PO × PM} {I : Nat → Nat → Int} {S : PS} {a0 a1 : Nat} (k : Ev d mX5_read (8, [some (vR (some (20, 0, a0))), some (vR (some (11, 0, a1))), some (vI 0), some (vI 0)], [], (I, S)) r) : Ev d mX5_read (4, [some (vR (some (20, 0, a0))), some (vR (some (11, 0, a1))), none, none], [], (I, S)) r :=
  s_iconst rfl rfl <|
  s_istore_n [some (vR (some (20, 0, a0))), some (vR (some (11, 0, a1))), some (vI 0), none] rfl rfl <|
  s_iconst rfl rfl <|
  s_istore_n [some (vR (some (20, 0, a0))), some (vR (some (11, 0, a1))), some (vI 0), some (vI 0)] rfl rfl <|
  k
theorem b_X5_read_8 {d : Nat} {r : PO × PM} {I : Nat → Nat → Int} {S : PS} {a0 a1 : Nat} {x2 x3 : Int} (kt : 700 < x3 → Ev d mX5_read (123, [some (vR (some (20, 0, a0))), some (vR (some (11, 0, a1))), some (vI x2), some (vI x3)], [], (I, S)) r) (kf : x3 ≤ 700 → Ev d mX5_read (15, [some (vR (some (20, 0, a0))), some (vR (some (11, 0, a1))), some (vI x2), some (vI x3)], [], (I, S)) r) : Ev d mX5_read (8, [some (vR (some (20, 0, a0))), some (vR (some (11, 0, a1))), some (vI x2), some (vI x3)], [], (I, S)) r :=
  s_iload_n rfl rfl rfl <|
  s_sipush rfl rfl <|
  s_icmp_gt 123 rfl rfl kt kf
theorem b_X5_read_15 {d : Nat} {r : PO × PM} {I : Nat → Nat → Int} {S : PS} {a0 a1 : Nat} {x2 x3 : Int} (kt : x2 ≠ 0 → Ev d mX5_read (123, [some (vR (some (20, 0, a0))), some (vR (some (11, 0, a1))), some (vI x2), some (vI x3)], [], (I, S)) r) (kf : x2 = 0 → Ev d mX5_read (19, [some (vR (some (20, 0, a0))), some (vR (some (11, 0, a1))), some (vI x2), some (vI x3)], [], (I, S)) r) : Ev d mX5_read (15, [some (vR (some (20, 0, a0))), some (vR (some (11, 0, a1))), some (vI x2), some (vI x3)], [], (I, S)) r :=
  s_iload_n rfl rfl rfl <|
  s_if_ne 123 rfl rfl kt kf
theorem b_X5_read_19 {d : Nat} {r : PO × PM} {I : Nat → Nat → Int} {S : PS} {a0 a1 : Nat} {x2 x3 : Int} {I1 : Nat → Nat → Int} {S1 : PS} (c : Ca d mX10_advance [vR (some (20, 0, a0))] (I, S) (.inl none) (I1, S1)) (k : Ev (d + 1) mX5_read (23, [some (vR (some (20, 0, a0))), some (vR (some (11, 0, a1))), some (vI x2), some (vI x3)], [], (I1, S1)) r) : Ev (d + 1) mX5_read (19, [some (vR (some (20, 0, a0))), some (vR (some (11, 0, a1))), some (vI x2), some (vI x3)], [], (I, S)) r :=
  s_aload_n rfl rfl rfl <|
  s_cvV rfl rfl rfl rfl rfl c k
theorem b_X5_read_23 {d : Nat} {r : PO × PM} {I : Nat → Nat → Int} {S : PS} {a0 a1 : Nat} {x2 x3 : Int} (kt : I a0 3 ≠ 0 → Ev d mX5_read (44, [some (vR (some (20, 0, a0))), some (vR (some (11, 0, a1))), some (vI x2), some (vI x3)], [], (I, S)) r) (kf : I a0 3 = 0 → Ev d mX5_read (30, [some (vR (some (20, 0, a0))), some (vR (some (11, 0, a1))), some (vI x2), some (vI x3)], [], (I, S)) r) : Ev d mX5_read (23, [some (vR (some (20, 0, a0))), some (vR (some (11, 0, a1))), some (vI x2), some (vI x3)], [], (I, S)) r :=
  s_aload_n rfl rfl rfl <|
  s_getI rfl rfl rfl <|
  s_if_ne 44 rfl rfl kt kf
theorem b_X5_read_30 {d : Nat} {r : PO × PM} {I : Nat → Nat → Int} {S : PS} {a0 a1 : Nat} {x2 x3 z : Int} {I1 : Nat → Nat → Int} {S1 : PS} (c : Ca d mX0_isMap [vR (some (11, 0, a1))] (I, S) (.inl (some (vI z))) (I1, S1)) (k : Ev (d + 1) mX5_read (34, [some (vR (some (20, 0, a0))), some (vR (some (11, 0, a1))), some (vI x2), some (vI x3)], [vI z], (I1, S1)) r) : Ev (d + 1) mX5_read (30, [some (vR (some (20, 0, a0))), some (vR (some (11, 0, a1))), some (vI x2), some (vI x3)], [], (I, S)) r :=
  s_aload_n rfl rfl rfl <|
  s_cvI rfl rfl rfl rfl rfl c k
theorem b_X5_read_34 {d : Nat} {r : PO × PM} {I : Nat → Nat → Int} {S : PS} {a0 a1 : Nat} {x2 x3 xs0 : Int} (kt : xs0 = 0 → Ev d mX5_read (41, [some (vR (some (20, 0, a0))), some (vR (some (11, 0, a1))), some (vI x2), some (vI x3)], [], (I, S)) r) (kf : xs0 ≠ 0 → Ev d mX5_read (37, [some (vR (some (20, 0, a0))), some (vR (some (11, 0, a1))), some (vI x2), some (vI x3)], [], (I, S)) r) : Ev d mX5_read (34, [some (vR (some (20, 0, a0))), some (vR (some (11, 0, a1))), some (vI x2), some (vI x3)], [vI xs0], (I, S)) r :=
  s_if_eq 41 rfl rfl kt kf
theorem b_X5_read_37 {d : Nat} {r : PO × PM} {I : Nat → Nat → Int} {S : PS} {a0 a1 : Nat} {x2 x3 : Int} (k : Ev d mX5_read (43, [some (vR (some (20, 0, a0))), some (vR (some (11, 0, a1))), some (vI x2), some (vI x3)], [vI 0], (I, S)) r) : Ev d mX5_read (37, [some (vR (some (20, 0, a0))), some (vR (some (11, 0, a1))), some (vI x2), some (vI x3)], [], (I, S)) r :=
  s_iconst rfl rfl <|
  s_goto 43 rfl rfl k
theorem b_X5_read_41 {d : Nat} {r : PO × PM} {I : Nat → Nat → Int} {S : PS} {a0 a1 : Nat} {x2 x3 : Int} (k : Ev d mX5_read (43, [some (vR (some (20, 0, a0))), some (vR (some (11, 0, a1))), some (vI x2), some (vI x3)], [vI 6], (I, S)) r) : Ev d mX5_read (41, [some (vR (some (20, 0, a0))), some (vR (some (11, 0, a1))), some (vI x2), some (vI x3)], [], (I, S)) r :=
  s_bipush rfl rfl <|
  k
theorem b_X5_read_43 {d : Nat} {I : Nat → Nat → Int} {S : PS} {a0 a1 : Nat} {x2 x3 xs0 : Int} : Ev d mX5_read (43, [some (vR (some (20, 0, a0))), some (vR (some (11, 0, a1))), some (vI x2), some (vI x3)], [vI xs0], (I, S)) (.inl (some (vI xs0)), (I, S)) :=
  s_ret rfl rfl
theorem b_X5_read_44 {d : Nat} {r : PO × PM} {I : Nat → Nat → Int} {S : PS} {a0 a1 : Nat} {x2 x3 z : Int} {I1 : Nat → Nat → Int} {S1 : PS} (c : Ca d mX10_isWord [vR (some (20, 0, a0)), vR (some (6, 5, 4))] (I, S) (.inl (some (vI z))) (I1, S1)) (k : Ev (d + 1) mX5_read (50, [some (vR (some (20, 0, a0))), some (vR (some (11, 0, a1))), some (vI x2), some (vI x3)], [vI z], (I1, S1)) r) : Ev (d + 1) mX5_read (44, [some (vR (some (20, 0, a0))), some (vR (some (11, 0, a1))), some (vI x2), some (vI x3)], [], (I, S)) r :=
  s_aload_n rfl rfl rfl <|
  s_ldc rfl rfl <|
  s_cvI rfl rfl rfl rfl rfl c k
theorem b_X5_read_50 {d : Nat} {r : PO × PM} {I : Nat → Nat → Int} {S : PS} {a0 a1 : Nat} {x2 x3 xs0 : Int} (kt : xs0 = 0 → Ev d mX5_read (62, [some (vR (some (20, 0, a0))), some (vR (some (11, 0, a1))), some (vI x2), some (vI x3)], [], (I, S)) r) (kf : xs0 ≠ 0 → Ev d mX5_read (53, [some (vR (some (20, 0, a0))), some (vR (some (11, 0, a1))), some (vI x2), some (vI x3)], [], (I, S)) r) : Ev d mX5_read (50, [some (vR (some (20, 0, a0))), some (vR (some (11, 0, a1))), some (vI x2), some (vI x3)], [vI xs0], (I, S)) r :=
  s_if_eq 62 rfl rfl kt kf
theorem b_X5_read_53 {d : Nat} {r : PO × PM} {I : Nat → Nat → Int} {S : PS} {a0 a1 : Nat} {x2 x3 z : Int} {I1 : Nat → Nat → Int} {S1 : PS} (c : Ca d mX5_readPiece [vR (some (20, 0, a0)), vR (some (11, 0, a1))] (I, S) (.inl (some (vI z))) (I1, S1)) (k : Ev (d + 1) mX5_read (58, [some (vR (some (20, 0, a0))), some (vR (some (11, 0, a1))), some (vI x2), some (vI x3)], [vI z], (I1, S1)) r) : Ev (d + 1) mX5_read (53, [some (vR (some (20, 0, a0))), some (vR (some (11, 0, a1))), some (vI x2), some (vI x3)], [], (I, S)) r :=
  s_aload_n rfl rfl rfl <|
  s_aload_n rfl rfl rfl <|
  s_csI rfl rfl rfl rfl rfl rfl c k
theorem b_X5_read_58 {d : Nat} {r : PO × PM} {I : Nat → Nat → Int} {S : PS} {a0 a1 : Nat} {x2 x3 xs0 : Int} (k : Ev d mX5_read (117, [some (vR (some (20, 0, a0))), some (vR (some (11, 0, a1))), some (vI xs0), some (vI x3)], [], (I, S)) r) : Ev d mX5_read (58, [some (vR (some (20, 0, a0))), some (vR (some (11, 0, a1))), some (vI x2), some (vI x3)], [vI xs0], (I, S)) r :=
  s_istore_n [some (vR (some (20, 0, a0))), some (vR (some (11, 0, a1))), some (vI xs0), some (vI x3)] rfl rfl <|
  s_goto 117 rfl rfl k
theorem b_X5_read_62 {d : Nat} {r : PO × PM} {I : Nat → Nat → Int} {S : PS} {a0 a1 : Nat} {x2 x3 z : Int} {I1 : Nat → Nat → Int} {S1 : PS} (c : Ca d mX10_isWord [vR (some (20, 0, a0)), vR (some (6, 4, 6))] (I, S) (.inl (some (vI z))) (I1, S1)) (k : Ev (d + 1) mX5_read (68, [some (vR (some (20, 0, a0))), some (vR (some (11, 0, a1))), some (vI x2), some (vI x3)], [vI z], (I1, S1)) r) : Ev (d + 1) mX5_read (62, [some (vR (some (20, 0, a0))), some (vR (some (11, 0, a1))), some (vI x2), some (vI x3)], [], (I, S)) r :=
  s_aload_n rfl rfl rfl <|
  s_ldc rfl rfl <|
  s_cvI rfl rfl rfl rfl rfl c k
theorem b_X5_read_68 {d : Nat} {r : PO × PM} {I : Nat → Nat → Int} {S : PS} {a0 a1 : Nat} {x2 x3 xs0 : Int} (kt : xs0 = 0 → Ev d mX5_read (80, [some (vR (some (20, 0, a0))), some (vR (some (11, 0, a1))), some (vI x2), some (vI x3)], [], (I, S)) r) (kf : xs0 ≠ 0 → Ev d mX5_read (71, [some (vR (some (20, 0, a0))), some (vR (some (11, 0, a1))), some (vI x2), some (vI x3)], [], (I, S)) r) : Ev d mX5_read (68, [some (vR (some (20, 0, a0))), some (vR (some (11, 0, a1))), some (vI x2), some (vI x3)], [vI xs0], (I, S)) r :=
  s_if_eq 80 rfl rfl kt kf
theorem b_X5_read_71 {d : Nat} {r : PO × PM} {I : Nat → Nat → Int} {S : PS} {a0 a1 : Nat} {x2 x3 z : Int} {I1 : Nat → Nat → Int} {S1 : PS} (c : Ca d mX5_readJoin [vR (some (20, 0, a0)), vR (some (11, 0, a1))] (I, S) (.inl (some (vI z))) (I1, S1)) (k : Ev (d + 1) mX5_read (76, [some (vR (some (20, 0, a0))), some (vR (some (11, 0, a1))), some (vI x2), some (vI x3)], [vI z], (I1, S1)) r) : Ev (d + 1) mX5_read (71, [some (vR (some (20, 0, a0))), some (vR (some (11, 0, a1))), some (vI x2), some (vI x3)], [], (I, S)) r :=
  s_aload_n rfl rfl rfl <|
  s_aload_n rfl rfl rfl <|
  s_csI rfl rfl rfl rfl rfl rfl c k
theorem b_X5_read_76 {d : Nat} {r : PO × PM} {I : Nat → Nat → Int} {S : PS} {a0 a1 : Nat} {x2 x3 xs0 : Int} (k : Ev d mX5_read (117, [some (vR (some (20, 0, a0))), some (vR (some (11, 0, a1))), some (vI xs0), some (vI x3)], [], (I, S)) r) : Ev d mX5_read (76, [some (vR (some (20, 0, a0))), some (vR (some (11, 0, a1))), some (vI x2), some (vI x3)], [vI xs0], (I, S)) r :=
  s_istore_n [some (vR (some (20, 0, a0))), some (vR (some (11, 0, a1))), some (vI xs0), some (vI x3)] rfl rfl <|
  s_goto 117 rfl rfl k
theorem b_X5_read_80 {d : Nat} {r : PO × PM} {I : Nat → Nat → Int} {S : PS} {a0 a1 : Nat} {x2 x3 z : Int} {I1 : Nat → Nat → Int} {S1 : PS} (c : Ca d mX10_isWord [vR (some (20, 0, a0)), vR (some (6, 4, 8))] (I, S) (.inl (some (vI z))) (I1, S1)) (k : Ev (d + 1) mX5_read (86, [some (vR (some (20, 0, a0))), some (vR (some (11, 0, a1))), some (vI x2), some (vI x3)], [vI z], (I1, S1)) r) : Ev (d + 1) mX5_read (80, [some (vR (some (20, 0, a0))), some (vR (some (11, 0, a1))), some (vI x2), some (vI x3)], [], (I, S)) r :=
  s_aload_n rfl rfl rfl <|
  s_ldc rfl rfl <|
  s_cvI rfl rfl rfl rfl rfl c k
theorem b_X5_read_86 {d : Nat} {r : PO × PM} {I : Nat → Nat → Int} {S : PS} {a0 a1 : Nat} {x2 x3 xs0 : Int} (kt : xs0 = 0 → Ev d mX5_read (98, [some (vR (some (20, 0, a0))), some (vR (some (11, 0, a1))), some (vI x2), some (vI x3)], [], (I, S)) r) (kf : xs0 ≠ 0 → Ev d mX5_read (89, [some (vR (some (20, 0, a0))), some (vR (some (11, 0, a1))), some (vI x2), some (vI x3)], [], (I, S)) r) : Ev d mX5_read (86, [some (vR (some (20, 0, a0))), some (vR (some (11, 0, a1))), some (vI x2), some (vI x3)], [vI xs0], (I, S)) r :=
  s_if_eq 98 rfl rfl kt kf
theorem b_X5_read_89 {d : Nat} {r : PO × PM} {I : Nat → Nat → Int} {S : PS} {a0 a1 : Nat} {x2 x3 z : Int} {I1 : Nat → Nat → Int} {S1 : PS} (c : Ca d mX5_readRule [vR (some (20, 0, a0)), vR (some (11, 0, a1))] (I, S) (.inl (some (vI z))) (I1, S1)) (k : Ev (d + 1) mX5_read (94, [some (vR (some (20, 0, a0))), some (vR (some (11, 0, a1))), some (vI x2), some (vI x3)], [vI z], (I1, S1)) r) : Ev (d + 1) mX5_read (89, [some (vR (some (20, 0, a0))), some (vR (some (11, 0, a1))), some (vI x2), some (vI x3)], [], (I, S)) r :=
  s_aload_n rfl rfl rfl <|
  s_aload_n rfl rfl rfl <|
  s_csI rfl rfl rfl rfl rfl rfl c k
theorem b_X5_read_94 {d : Nat} {r : PO × PM} {I : Nat → Nat → Int} {S : PS} {a0 a1 : Nat} {x2 x3 xs0 : Int} (k : Ev d mX5_read (117, [some (vR (some (20, 0, a0))), some (vR (some (11, 0, a1))), some (vI xs0), some (vI x3)], [], (I, S)) r) : Ev d mX5_read (94, [some (vR (some (20, 0, a0))), some (vR (some (11, 0, a1))), some (vI x2), some (vI x3)], [vI xs0], (I, S)) r :=
  s_istore_n [some (vR (some (20, 0, a0))), some (vR (some (11, 0, a1))), some (vI xs0), some (vI x3)] rfl rfl <|
  s_goto 117 rfl rfl k
theorem b_X5_read_98 {d : Nat} {r : PO × PM} {I : Nat → Nat → Int} {S : PS} {a0 a1 : Nat} {x2 x3 z : Int} {I1 : Nat → Nat → Int} {S1 : PS} (c : Ca d mX10_isWord [vR (some (20, 0, a0)), vR (some (6, 4, 10))] (I, S) (.inl (some (vI z))) (I1, S1)) (k : Ev (d + 1) mX5_read (104, [some (vR (some (20, 0, a0))), some (vR (some (11, 0, a1))), some (vI x2), some (vI x3)], [vI z], (I1, S1)) r) : Ev (d + 1) mX5_read (98, [some (vR (some (20, 0, a0))), some (vR (some (11, 0, a1))), some (vI x2), some (vI x3)], [], (I, S)) r :=
  s_aload_n rfl rfl rfl <|
  s_ldc rfl rfl <|
  s_cvI rfl rfl rfl rfl rfl c k
theorem b_X5_read_104 {d : Nat} {r : PO × PM} {I : Nat → Nat → Int} {S : PS} {a0 a1 : Nat} {x2 x3 xs0 : Int} (kt : xs0 = 0 → Ev d mX5_read (115, [some (vR (some (20, 0, a0))), some (vR (some (11, 0, a1))), some (vI x2), some (vI x3)], [], (I, S)) r) (kf : xs0 ≠ 0 → Ev d mX5_read (107, [some (vR (some (20, 0, a0))), some (vR (some (11, 0, a1))), some (vI x2), some (vI x3)], [], (I, S)) r) : Ev d mX5_read (104, [some (vR (some (20, 0, a0))), some (vR (some (11, 0, a1))), some (vI x2), some (vI x3)], [vI xs0], (I, S)) r :=
  s_if_eq 115 rfl rfl kt kf
theorem b_X5_read_107 {d : Nat} {r : PO × PM} {I : Nat → Nat → Int} {S : PS} {a0 a1 : Nat} {x2 x3 z : Int} {I1 : Nat → Nat → Int} {S1 : PS} (c : Ca d mX5_readSpot [vR (some (20, 0, a0)), vR (some (11, 0, a1))] (I, S) (.inl (some (vI z))) (I1, S1)) (k : Ev (d + 1) mX5_read (112, [some (vR (some (20, 0, a0))), some (vR (some (11, 0, a1))), some (vI x2), some (vI x3)], [vI z], (I1, S1)) r) : Ev (d + 1) mX5_read (107, [some (vR (some (20, 0, a0))), some (vR (some (11, 0, a1))), some (vI x2), some (vI x3)], [], (I, S)) r :=
  s_aload_n rfl rfl rfl <|
  s_aload_n rfl rfl rfl <|
  s_csI rfl rfl rfl rfl rfl rfl c k
theorem b_X5_read_112 {d : Nat} {r : PO × PM} {I : Nat → Nat → Int} {S : PS} {a0 a1 : Nat} {x2 x3 xs0 : Int} (k : Ev d mX5_read (116, [some (vR (some (20, 0, a0))), some (vR (some (11, 0, a1))), some (vI x2), some (vI x3)], [vI xs0], (I, S)) r) : Ev d mX5_read (112, [some (vR (some (20, 0, a0))), some (vR (some (11, 0, a1))), some (vI x2), some (vI x3)], [vI xs0], (I, S)) r :=
  s_goto 116 rfl rfl k
theorem b_X5_read_115 {d : Nat} {r : PO × PM} {I : Nat → Nat → Int} {S : PS} {a0 a1 : Nat} {x2 x3 : Int} (k : Ev d mX5_read (116, [some (vR (some (20, 0, a0))), some (vR (some (11, 0, a1))), some (vI x2), some (vI x3)], [vI 1], (I, S)) r) : Ev d mX5_read (115, [some (vR (some (20, 0, a0))), some (vR (some (11, 0, a1))), some (vI x2), some (vI x3)], [], (I, S)) r :=
  s_iconst rfl rfl <|
  k
theorem b_X5_read_116 {d : Nat} {r : PO × PM} {I : Nat → Nat → Int} {S : PS} {a0 a1 : Nat} {x2 x3 xs0 : Int} (k : Ev d mX5_read (117, [some (vR (some (20, 0, a0))), some (vR (some (11, 0, a1))), some (vI xs0), some (vI x3)], [], (I, S)) r) : Ev d mX5_read (116, [some (vR (some (20, 0, a0))), some (vR (some (11, 0, a1))), some (vI x2), some (vI x3)], [vI xs0], (I, S)) r :=
  s_istore_n [some (vR (some (20, 0, a0))), some (vR (some (11, 0, a1))), some (vI xs0), some (vI x3)] rfl rfl <|
  k
theorem b_X5_read_117 {d : Nat} {r : PO × PM} {I : Nat → Nat → Int} {S : PS} {a0 a1 : Nat} {x2 x3 : Int} (ho1 : -2147483648 ≤ x3 + 1 ∧ x3 + 1 ≤ 2147483647) (k : Ev d mX5_read (8, [some (vR (some (20, 0, a0))), some (vR (some (11, 0, a1))), some (vI x2), some (vI (x3 + 1))], [], (I, S)) r) : Ev d mX5_read (117, [some (vR (some (20, 0, a0))), some (vR (some (11, 0, a1))), some (vI x2), some (vI x3)], [], (I, S)) r :=
  s_iincp [some (vR (some (20, 0, a0))), some (vR (some (11, 0, a1))), some (vI x2), some (vI (x3 + 1))] rfl rfl ho1 rfl <|
  s_goto 8 rfl rfl k
theorem b_X5_read_123 {d : Nat} {I : Nat → Nat → Int} {S : PS} {a0 a1 : Nat} {x2 x3 : Int} : Ev d mX5_read (123, [some (vR (some (20, 0, a0))), some (vR (some (11, 0, a1))), some (vI x2), some (vI x3)], [], (I, S)) (.inl (some (vI x2)), (I, S)) :=
  s_iload_n rfl rfl rfl <|
  s_ret rfl rfl
theorem b_X5_readPiece_0 {d : Nat} {r : PO × PM} {I : Nat → Nat → Int} {S : PS} {a0 a1 : Nat} (kt : I a1 1 < 4 → Ev d mX5_readPiece (10, [some (vR (some (20, 0, a0))), some (vR (some (11, 0, a1))), none, none, none], [], (I, S)) r) (kf : 4 ≤ I a1 1 → Ev d mX5_readPiece (8, [some (vR (some (20, 0, a0))), some (vR (some (11, 0, a1))), none, none, none], [], (I, S)) r) : Ev d mX5_readPiece (0, [some (vR (some (20, 0, a0))), some (vR (some (11, 0, a1))), none, none, none], [], (I, S)) r :=
  s_aload_n rfl rfl rfl <|
  s_getI rfl rfl rfl <|
  s_iconst rfl rfl <|
  s_icmp_lt 10 rfl rfl kt kf
theorem b_X5_readPiece_8 {d : Nat} {I : Nat → Nat → Int} {S : PS} {a0 a1 : Nat} : Ev d mX5_readPiece (8, [some (vR (some (20, 0, a0))), some (vR (some (11, 0, a1))), none, none, none], [], (I, S)) (.inl (some (vI 2)), (I, S)) :=
  s_iconst rfl rfl <|
  s_ret rfl rfl
theorem b_X5_readPiece_10 {d : Nat} {r : PO × PM} {I : Nat → Nat → Int} {S : PS} {a0 a1 : Nat} {I1 : Nat → Nat → Int} {S1 : PS} {z : Int} (c : Ca d mX5_readNumber [vR (some (20, 0, a0)), vI 5, vI 7] (I, S) (.inl (some (vI z))) (I1, S1)) (k : Ev (d + 1) mX5_readPiece (17, [some (vR (some (20, 0, a0))), some (vR (some (11, 0, a1))), none, none, none], [vI z], (I1, S1)) r) : Ev (d + 1) mX5_readPiece (10, [some (vR (some (20, 0, a0))), some (vR (some (11, 0, a1))), none, none, none], [], (I, S)) r :=
  s_aload_n rfl rfl rfl <|
  s_iconst rfl rfl <|
  s_bipush rfl rfl <|
  s_csI rfl rfl rfl rfl rfl rfl c k
theorem b_X5_readPiece_17 {d : Nat} {r : PO × PM} {I : Nat → Nat → Int} {S : PS} {a0 a1 : Nat} {xs0 : Int} (kt : xs0 = 0 → Ev d mX5_readPiece (24, [some (vR (some (20, 0, a0))), some (vR (some (11, 0, a1))), some (vI xs0), none, none], [], (I, S)) r) (kf : xs0 ≠ 0 → Ev d mX5_readPiece (22, [some (vR (some (20, 0, a0))), some (vR (some (11, 0, a1))), some (vI xs0), none, none], [], (I, S)) r) : Ev d mX5_readPiece (17, [some (vR (some (20, 0, a0))), some (vR (some (11, 0, a1))), none, none, none], [vI xs0], (I, S)) r :=
  s_istore_n [some (vR (some (20, 0, a0))), some (vR (some (11, 0, a1))), some (vI xs0), none, none] rfl rfl <|
  s_iload_n rfl rfl rfl <|
  s_if_eq 24 rfl rfl kt kf
theorem b_X5_readPiece_22 {d : Nat} {I : Nat → Nat → Int} {S : PS} {a0 a1 : Nat} {x2 : Int} : Ev d mX5_readPiece (22, [some (vR (some (20, 0, a0))), some (vR (some (11, 0, a1))), some (vI x2), none, none], [], (I, S)) (.inl (some (vI x2)), (I, S)) :=
  s_iload_n rfl rfl rfl <|
  s_ret rfl rfl
theorem b_X5_readPiece_24 {d : Nat} {r : PO × PM} {I : Nat → Nat → Int} {S : PS} {a0 a1 p1 q1 p3 : Nat} {x2 : Int} {I1 : Nat → Nat → Int} {S1 : PS} (hr1 : S.1 a1 0 = some (3, q1, p1)) (hi2 : 0 ≤ I a1 1 ∧ I a1 1 < (q1 : Nat)) (hr3 : S.1 p1 ((I a1 1).toNat) = some (14, 0, p3)) (c : Ca d mX3_begin [vR (some (14, 0, p3)), vI (I a0 5)] (I, S) (.inl none) (I1, S1)) (k : Ev (d + 1) mX5_readPiece (42, [some (vR (some (20, 0, a0))), some (vR (some (11, 0, a1))), some (vI x2), some (vR (some (14, 0, p3))), none], [], (I1, S1)) r) : Ev (d + 1) mX5_readPiece (24, [some (vR (some (20, 0, a0))), some (vR (some (11, 0, a1))), some (vI x2), none, none], [], (I, S)) r :=
  s_aload_n rfl rfl rfl <|
  s_getR rfl rfl rfl hr1 <|
  s_aload_n rfl rfl rfl <|
  s_getI rfl rfl rfl <|
  s_aald rfl rfl hi2 hr3 <|
  s_astore_n [some (vR (some (20, 0, a0))), some (vR (some (11, 0, a1))), some (vI x2), some (vR (some (14, 0, p3))), none] rfl rfl <|
  s_aload_n rfl rfl rfl <|
  s_aload_n rfl rfl rfl <|
  s_getI rfl rfl rfl <|
  s_cvV rfl rfl rfl rfl rfl c k
theorem b_X5_readPiece_42 {d : Nat} {r : PO × PM} {I : Nat → Nat → Int} {S : PS} {a0 a1 a3 : Nat} {x2 : Int} (k : Ev d mX5_readPiece (45, [some (vR (some (20, 0, a0))), some (vR (some (11, 0, a1))), some (vI x2), some (vR (some (14, 0, a3))), some (vI 0)], [], (I, S)) r) : Ev d mX5_readPiece (42, [some (vR (some (20, 0, a0))), some (vR (some (11, 0, a1))), some (vI x2), some (vR (some (14, 0, a3))), none], [], (I, S)) r :=
  s_iconst rfl rfl <|
  s_istore [some (vR (some (20, 0, a0))), some (vR (some (11, 0, a1))), some (vI x2), some (vR (some (14, 0, a3))), some (vI 0)] rfl rfl <|
  k
theorem b_X5_readPiece_45 {d : Nat} {r : PO × PM} {I : Nat → Nat → Int} {S : PS} {a0 a1 a3 : Nat} {x2 x4 : Int} (kt : 7 < x4 → Ev d mX5_readPiece (113, [some (vR (some (20, 0, a0))), some (vR (some (11, 0, a1))), some (vI x2), some (vR (some (14, 0, a3))), some (vI x4)], [], (I, S)) r) (kf : x4 ≤ 7 → Ev d mX5_readPiece (52, [some (vR (some (20, 0, a0))), some (vR (some (11, 0, a1))), some (vI x2), some (vR (some (14, 0, a3))), some (vI x4)], [], (I, S)) r) : Ev d mX5_readPiece (45, [some (vR (some (20, 0, a0))), some (vR (some (11, 0, a1))), some (vI x2), some (vR (some (14, 0, a3))), some (vI x4)], [], (I, S)) r :=
  s_iload rfl rfl rfl <|
  s_bipush rfl rfl <|
  s_icmp_gt 113 rfl rfl kt kf
theorem b_X5_readPiece_52 {d : Nat} {r : PO × PM} {I : Nat → Nat → Int} {S : PS} {a0 a1 a3 : Nat} {x2 x4 : Int} {I1 : Nat → Nat → Int} {S1 : PS} (c : Ca d mX10_advance [vR (some (20, 0, a0))] (I, S) (.inl none) (I1, S1)) (k : Ev (d + 1) mX5_readPiece (56, [some (vR (some (20, 0, a0))), some (vR (some (11, 0, a1))), some (vI x2), some (vR (some (14, 0, a3))), some (vI x4)], [], (I1, S1)) r) : Ev (d + 1) mX5_readPiece (52, [some (vR (some (20, 0, a0))), some (vR (some (11, 0, a1))), some (vI x2), some (vR (some (14, 0, a3))), some (vI x4)], [], (I, S)) r :=
  s_aload_n rfl rfl rfl <|
  s_cvV rfl rfl rfl rfl rfl c k
theorem b_X5_readPiece_56 {d : Nat} {r : PO × PM} {I : Nat → Nat → Int} {S : PS} {a0 a1 a3 : Nat} {x2 x4 : Int} (kt : I a0 3 ≠ 3 → Ev d mX5_readPiece (80, [some (vR (some (20, 0, a0))), some (vR (some (11, 0, a1))), some (vI x2), some (vR (some (14, 0, a3))), some (vI x4)], [], (I, S)) r) (kf : I a0 3 = 3 → Ev d mX5_readPiece (64, [some (vR (some (20, 0, a0))), some (vR (some (11, 0, a1))), some (vI x2), some (vR (some (14, 0, a3))), some (vI x4)], [], (I, S)) r) : Ev d mX5_readPiece (56, [some (vR (some (20, 0, a0))), some (vR (some (11, 0, a1))), some (vI x2), some (vR (some (14, 0, a3))), some (vI x4)], [], (I, S)) r :=
  s_aload_n rfl rfl rfl <|
  s_getI rfl rfl rfl <|
  s_iconst rfl rfl <|
  s_icmp_ne 80 rfl rfl kt kf
theorem b_X5_readPiece_64 {d : Nat} {r : PO × PM} {I : Nat → Nat → Int} {S : PS} {a0 a1 a3 : Nat} {x2 x4 z : Int} {I1 : Nat → Nat → Int} {S1 : PS} (c : Ca d mX3_build [vR (some (14, 0, a3))] (I, S) (.inl (some (vI z))) (I1, S1)) (k : Ev (d + 1) mX5_readPiece (68, [some (vR (some (20, 0, a0))), some (vR (some (11, 0, a1))), some (vI x2), some (vR (some (14, 0, a3))), some (vI x4)], [vI z], (I1, S1)) r) : Ev (d + 1) mX5_readPiece (64, [some (vR (some (20, 0, a0))), some (vR (some (11, 0, a1))), some (vI x2), some (vR (some (14, 0, a3))), some (vI x4)], [], (I, S)) r :=
  s_aload_n rfl rfl rfl <|
  s_cvI rfl rfl rfl rfl rfl c k
theorem b_X5_readPiece_68 {d : Nat} {r : PO × PM} {I : Nat → Nat → Int} {S : PS} {a0 a1 a3 : Nat} {x2 x4 xs0 : Int} (kt : xs0 = 0 → Ev d mX5_readPiece (78, [some (vR (some (20, 0, a0))), some (vR (some (11, 0, a1))), some (vI x2), some (vR (some (14, 0, a3))), some (vI x4)], [], (I, S)) r) (kf : xs0 ≠ 0 → Ev d mX5_readPiece (71, [some (vR (some (20, 0, a0))), some (vR (some (11, 0, a1))), some (vI x2), some (vR (some (14, 0, a3))), some (vI x4)], [], (I, S)) r) : Ev d mX5_readPiece (68, [some (vR (some (20, 0, a0))), some (vR (some (11, 0, a1))), some (vI x2), some (vR (some (14, 0, a3))), some (vI x4)], [vI xs0], (I, S)) r :=
  s_if_eq 78 rfl rfl kt kf
theorem b_X5_readPiece_71 {d : Nat} {r : PO × PM} {I : Nat → Nat → Int} {S : PS} {a0 a1 a3 : Nat} {x2 x4 z : Int} {I1 : Nat → Nat → Int} {S1 : PS} (c : Ca d mX0_keepPiece [vR (some (11, 0, a1))] (I, S) (.inl (some (vI z))) (I1, S1)) (k : Ev (d + 1) mX5_readPiece (75, [some (vR (some (20, 0, a0))), some (vR (some (11, 0, a1))), some (vI x2), some (vR (some (14, 0, a3))), some (vI x4)], [vI z], (I1, S1)) r) : Ev (d + 1) mX5_readPiece (71, [some (vR (some (20, 0, a0))), some (vR (some (11, 0, a1))), some (vI x2), some (vR (some (14, 0, a3))), some (vI x4)], [], (I, S)) r :=
  s_aload_n rfl rfl rfl <|
  s_cvI rfl rfl rfl rfl rfl c k
theorem b_X5_readPiece_75 {d : Nat} {r : PO × PM} {I : Nat → Nat → Int} {S : PS} {a0 a1 a3 : Nat} {x2 x4 xs0 : Int} (k : Ev d mX5_readPiece (79, [some (vR (some (20, 0, a0))), some (vR (some (11, 0, a1))), some (vI x2), some (vR (some (14, 0, a3))), some (vI x4)], [vI xs0], (I, S)) r) : Ev d mX5_readPiece (75, [some (vR (some (20, 0, a0))), some (vR (some (11, 0, a1))), some (vI x2), some (vR (some (14, 0, a3))), some (vI x4)], [vI xs0], (I, S)) r :=
  s_goto 79 rfl rfl k
theorem b_X5_readPiece_78 {d : Nat} {r : PO × PM} {I : Nat → Nat → Int} {S : PS} {a0 a1 a3 : Nat} {x2 x4 : Int} (k : Ev d mX5_readPiece (79, [some (vR (some (20, 0, a0))), some (vR (some (11, 0, a1))), some (vI x2), some (vR (some (14, 0, a3))), some (vI x4)], [vI 2], (I, S)) r) : Ev d mX5_readPiece (78, [some (vR (some (20, 0, a0))), some (vR (some (11, 0, a1))), some (vI x2), some (vR (some (14, 0, a3))), some (vI x4)], [], (I, S)) r :=
  s_iconst rfl rfl <|
  k
theorem b_X5_readPiece_79 {d : Nat} {I : Nat → Nat → Int} {S : PS} {a0 a1 a3 : Nat} {x2 x4 xs0 : Int} : Ev d mX5_readPiece (79, [some (vR (some (20, 0, a0))), some (vR (some (11, 0, a1))), some (vI x2), some (vR (some (14, 0, a3))), some (vI x4)], [vI xs0], (I, S)) (.inl (some (vI xs0)), (I, S)) :=
  s_ret rfl rfl
theorem b_X5_readPiece_80 {d : Nat} {r : PO × PM} {I : Nat → Nat → Int} {S : PS} {a0 a1 a3 : Nat} {x2 x4 z : Int} {I1 : Nat → Nat → Int} {S1 : PS} (c : Ca d mX5_checkNumber [vR (some (20, 0, a0)), vI 5, vI 9] (I, S) (.inl (some (vI z))) (I1, S1)) (k : Ev (d + 1) mX5_readPiece (87, [some (vR (some (20, 0, a0))), some (vR (some (11, 0, a1))), some (vI x2), some (vR (some (14, 0, a3))), some (vI x4)], [vI z], (I1, S1)) r) : Ev (d + 1) mX5_readPiece (80, [some (vR (some (20, 0, a0))), some (vR (some (11, 0, a1))), some (vI x2), some (vR (some (14, 0, a3))), some (vI x4)], [], (I, S)) r :=
  s_aload_n rfl rfl rfl <|
  s_iconst rfl rfl <|
  s_bipush rfl rfl <|
  s_csI rfl rfl rfl rfl rfl rfl c k
theorem b_X5_readPiece_87 {d : Nat} {r : PO × PM} {I : Nat → Nat → Int} {S : PS} {a0 a1 a3 : Nat} {x2 x4 xs0 : Int} (kt : xs0 = 0 → Ev d mX5_readPiece (94, [some (vR (some (20, 0, a0))), some (vR (some (11, 0, a1))), some (vI xs0), some (vR (some (14, 0, a3))), some (vI x4)], [], (I, S)) r) (kf : xs0 ≠ 0 → Ev d mX5_readPiece (92, [some (vR (some (20, 0, a0))), some (vR (some (11, 0, a1))), some (vI xs0), some (vR (some (14, 0, a3))), some (vI x4)], [], (I, S)) r) : Ev d mX5_readPiece (87, [some (vR (some (20, 0, a0))), some (vR (some (11, 0, a1))), some (vI x2), some (vR (some (14, 0, a3))), some (vI x4)], [vI xs0], (I, S)) r :=
  s_istore_n [some (vR (some (20, 0, a0))), some (vR (some (11, 0, a1))), some (vI xs0), some (vR (some (14, 0, a3))), some (vI x4)] rfl rfl <|
  s_iload_n rfl rfl rfl <|
  s_if_eq 94 rfl rfl kt kf
theorem b_X5_readPiece_92 {d : Nat} {I : Nat → Nat → Int} {S : PS} {a0 a1 a3 : Nat} {x2 x4 : Int} : Ev d mX5_readPiece (92, [some (vR (some (20, 0, a0))), some (vR (some (11, 0, a1))), some (vI x2), some (vR (some (14, 0, a3))), some (vI x4)], [], (I, S)) (.inl (some (vI x2)), (I, S)) :=
  s_iload_n rfl rfl rfl <|
  s_ret rfl rfl
theorem b_X5_readPiece_94 {d : Nat} {r : PO × PM} {I : Nat → Nat → Int} {S : PS} {a0 a1 a3 : Nat} {x2 x4 z : Int} {I1 : Nat → Nat → Int} {S1 : PS} (c : Ca d mX3_addSpoke [vR (some (14, 0, a3)), vI (I a0 5)] (I, S) (.inl (some (vI z))) (I1, S1)) (k : Ev (d + 1) mX5_readPiece (102, [some (vR (some (20, 0, a0))), some (vR (some (11, 0, a1))), some (vI x2), some (vR (some (14, 0, a3))), some (vI x4)], [vI z], (I1, S1)) r) : Ev (d + 1) mX5_readPiece (94, [some (vR (some (20, 0, a0))), some (vR (some (11, 0, a1))), some (vI x2), some (vR (some (14, 0, a3))), some (vI x4)], [], (I, S)) r :=
  s_aload_n rfl rfl rfl <|
  s_aload_n rfl rfl rfl <|
  s_getI rfl rfl rfl <|
  s_cvI rfl rfl rfl rfl rfl c k
theorem b_X5_readPiece_102 {d : Nat} {r : PO × PM} {I : Nat → Nat → Int} {S : PS} {a0 a1 a3 : Nat} {x2 x4 xs0 : Int} (kt : xs0 ≠ 0 → Ev d mX5_readPiece (107, [some (vR (some (20, 0, a0))), some (vR (some (11, 0, a1))), some (vI x2), some (vR (some (14, 0, a3))), some (vI x4)], [], (I, S)) r) (kf : xs0 = 0 → Ev d mX5_readPiece (105, [some (vR (some (20, 0, a0))), some (vR (some (11, 0, a1))), some (vI x2), some (vR (some (14, 0, a3))), some (vI x4)], [], (I, S)) r) : Ev d mX5_readPiece (102, [some (vR (some (20, 0, a0))), some (vR (some (11, 0, a1))), some (vI x2), some (vR (some (14, 0, a3))), some (vI x4)], [vI xs0], (I, S)) r :=
  s_if_ne 107 rfl rfl kt kf
theorem b_X5_readPiece_105 {d : Nat} {I : Nat → Nat → Int} {S : PS} {a0 a1 a3 : Nat} {x2 x4 : Int} : Ev d mX5_readPiece (105, [some (vR (some (20, 0, a0))), some (vR (some (11, 0, a1))), some (vI x2), some (vR (some (14, 0, a3))), some (vI x4)], [], (I, S)) (.inl (some (vI 2)), (I, S)) :=
  s_iconst rfl rfl <|
  s_ret rfl rfl
theorem b_X5_readPiece_107 {d : Nat} {r : PO × PM} {I : Nat → Nat → Int} {S : PS} {a0 a1 a3 : Nat} {x2 x4 : Int} (ho1 : -2147483648 ≤ x4 + 1 ∧ x4 + 1 ≤ 2147483647) (k : Ev d mX5_readPiece (45, [some (vR (some (20, 0, a0))), some (vR (some (11, 0, a1))), some (vI x2), some (vR (some (14, 0, a3))), some (vI (x4 + 1))], [], (I, S)) r) : Ev d mX5_readPiece (107, [some (vR (some (20, 0, a0))), some (vR (some (11, 0, a1))), some (vI x2), some (vR (some (14, 0, a3))), some (vI x4)], [], (I, S)) r :=
  s_iincp [some (vR (some (20, 0, a0))), some (vR (some (11, 0, a1))), some (vI x2), some (vR (some (14, 0, a3))), some (vI (x4 + 1))] rfl rfl ho1 rfl <|
  s_goto 45 rfl rfl k
theorem b_X5_readPiece_113 {d : Nat} {I : Nat → Nat → Int} {S : PS} {a0 a1 a3 : Nat} {x2 x4 : Int} : Ev d mX5_readPiece (113, [some (vR (some (20, 0, a0))), some (vR (some (11, 0, a1))), some (vI x2), some (vR (some (14, 0, a3))), some (vI x4)], [], (I, S)) (.inl (some (vI 2)), (I, S)) :=
  s_iconst rfl rfl <|
  s_ret rfl rfl
theorem b_X5_readJoin_0 {d : Nat} {r : PO × PM} {I : Nat → Nat → Int} {S : PS} {a0 a1 : Nat} (kt : 1 ≤ I a1 1 → Ev d mX5_readJoin (10, [some (vR (some (20, 0, a0))), some (vR (some (11, 0, a1))), none, none, none], [], (I, S)) r) (kf : I a1 1 < 1 → Ev d mX5_readJoin (8, [some (vR (some (20, 0, a0))), some (vR (some (11, 0, a1))), none, none, none], [], (I, S)) r) : Ev d mX5_readJoin (0, [some (vR (some (20, 0, a0))), some (vR (some (11, 0, a1))), none, none, none], [], (I, S)) r :=
  s_aload_n rfl rfl rfl <|
  s_getI rfl rfl rfl <|
  s_iconst rfl rfl <|
  s_icmp_ge 10 rfl rfl kt kf
theorem b_X5_readJoin_8 {d : Nat} {I : Nat → Nat → Int} {S : PS} {a0 a1 : Nat} : Ev d mX5_readJoin (8, [some (vR (some (20, 0, a0))), some (vR (some (11, 0, a1))), none, none, none], [], (I, S)) (.inl (some (vI 3)), (I, S)) :=
  s_iconst rfl rfl <|
  s_ret rfl rfl
theorem b_X5_readJoin_10 {d : Nat} {r : PO × PM} {I : Nat → Nat → Int} {S : PS} {a0 a1 p1 q1 p4 : Nat} (hr1 : S.1 a1 0 = some (3, q1, p1)) (ho2 : -2147483648 ≤ I a1 1 - 1 ∧ I a1 1 - 1 ≤ 2147483647) (hi3 : 0 ≤ I a1 1 - 1 ∧ I a1 1 - 1 < (q1 : Nat)) (hr4 : S.1 p1 ((I a1 1 - 1).toNat) = some (14, 0, p4)) (kt : I p4 6 < 4 → Ev d mX5_readJoin (32, [some (vR (some (20, 0, a0))), some (vR (some (11, 0, a1))), some (vR (some (14, 0, p4))), none, none], [], (I, S)) r) (kf : 4 ≤ I p4 6 → Ev d mX5_readJoin (30, [some (vR (some (20, 0, a0))), some (vR (some (11, 0, a1))), some (vR (some (14, 0, p4))), none, none], [], (I, S)) r) : Ev d mX5_readJoin (10, [some (vR (some (20, 0, a0))), some (vR (some (11, 0, a1))), none, none, none], [], (I, S)) r :=
  s_aload_n rfl rfl rfl <|
  s_getR rfl rfl rfl hr1 <|
  s_aload_n rfl rfl rfl <|
  s_getI rfl rfl rfl <|
  s_iconst rfl rfl <|
  s_isubp rfl ho2 <|
  s_aald rfl rfl hi3 hr4 <|
  s_astore_n [some (vR (some (20, 0, a0))), some (vR (some (11, 0, a1))), some (vR (some (14, 0, p4))), none, none] rfl rfl <|
  s_aload_n rfl rfl rfl <|
  s_getI rfl rfl rfl <|
  s_iconst rfl rfl <|
  s_icmp_lt 32 rfl rfl kt kf
theorem b_X5_readJoin_30 {d : Nat} {I : Nat → Nat → Int} {S : PS} {a0 a1 a2 : Nat} : Ev d mX5_readJoin (30, [some (vR (some (20, 0, a0))), some (vR (some (11, 0, a1))), some (vR (some (14, 0, a2))), none, none], [], (I, S)) (.inl (some (vI 2)), (I, S)) :=
  s_iconst rfl rfl <|
  s_ret rfl rfl
theorem b_X5_readJoin_32 {d : Nat} {r : PO × PM} {I : Nat → Nat → Int} {S : PS} {a0 a1 a2 : Nat} {I1 : Nat → Nat → Int} {S1 : PS} {z : Int} (c : Ca d mX5_readVertex [vR (some (20, 0, a0)), vR (some (14, 0, a2))] (I, S) (.inl (some (vI z))) (I1, S1)) (k : Ev (d + 1) mX5_readJoin (37, [some (vR (some (20, 0, a0))), some (vR (some (11, 0, a1))), some (vR (some (14, 0, a2))), none, none], [vI z], (I1, S1)) r) : Ev (d + 1) mX5_readJoin (32, [some (vR (some (20, 0, a0))), some (vR (some (11, 0, a1))), some (vR (some (14, 0, a2))), none, none], [], (I, S)) r :=
  s_aload_n rfl rfl rfl <|
  s_aload_n rfl rfl rfl <|
  s_csI rfl rfl rfl rfl rfl rfl c k
theorem b_X5_readJoin_37 {d : Nat} {r : PO × PM} {I : Nat → Nat → Int} {S : PS} {a0 a1 a2 : Nat} {xs0 : Int} (kt : xs0 ≠ 0 → Ev d mX5_readJoin (54, [some (vR (some (20, 0, a0))), some (vR (some (11, 0, a1))), some (vR (some (14, 0, a2))), some (vI xs0), some (vI (I a0 5))], [], (I, S)) r) (kf : xs0 = 0 → Ev d mX5_readJoin (48, [some (vR (some (20, 0, a0))), some (vR (some (11, 0, a1))), some (vR (some (14, 0, a2))), some (vI xs0), some (vI (I a0 5))], [], (I, S)) r) : Ev d mX5_readJoin (37, [some (vR (some (20, 0, a0))), some (vR (some (11, 0, a1))), some (vR (some (14, 0, a2))), none, none], [vI xs0], (I, S)) r :=
  s_istore_n [some (vR (some (20, 0, a0))), some (vR (some (11, 0, a1))), some (vR (some (14, 0, a2))), some (vI xs0), none] rfl rfl <|
  s_aload_n rfl rfl rfl <|
  s_getI rfl rfl rfl <|
  s_istore [some (vR (some (20, 0, a0))), some (vR (some (11, 0, a1))), some (vR (some (14, 0, a2))), some (vI xs0), some (vI (I a0 5))] rfl rfl <|
  s_iload_n rfl rfl rfl <|
  s_if_ne 54 rfl rfl kt kf
theorem b_X5_readJoin_48 {d : Nat} {r : PO × PM} {I : Nat → Nat → Int} {S : PS} {a0 a1 a2 : Nat} {x3 x4 z : Int} {I1 : Nat → Nat → Int} {S1 : PS} (c : Ca d mX5_readVertex [vR (some (20, 0, a0)), vR (some (14, 0, a2))] (I, S) (.inl (some (vI z))) (I1, S1)) (k : Ev (d + 1) mX5_readJoin (53, [some (vR (some (20, 0, a0))), some (vR (some (11, 0, a1))), some (vR (some (14, 0, a2))), some (vI x3), some (vI x4)], [vI z], (I1, S1)) r) : Ev (d + 1) mX5_readJoin (48, [some (vR (some (20, 0, a0))), some (vR (some (11, 0, a1))), some (vR (some (14, 0, a2))), some (vI x3), some (vI x4)], [], (I, S)) r :=
  s_aload_n rfl rfl rfl <|
  s_aload_n rfl rfl rfl <|
  s_csI rfl rfl rfl rfl rfl rfl c k
theorem b_X5_readJoin_53 {d : Nat} {r : PO × PM} {I : Nat → Nat → Int} {S : PS} {a0 a1 a2 : Nat} {x3 x4 xs0 : Int} (k : Ev d mX5_readJoin (54, [some (vR (some (20, 0, a0))), some (vR (some (11, 0, a1))), some (vR (some (14, 0, a2))), some (vI xs0), some (vI x4)], [], (I, S)) r) : Ev d mX5_readJoin (53, [some (vR (some (20, 0, a0))), some (vR (some (11, 0, a1))), some (vR (some (14, 0, a2))), some (vI x3), some (vI x4)], [vI xs0], (I, S)) r :=
  s_istore_n [some (vR (some (20, 0, a0))), some (vR (some (11, 0, a1))), some (vR (some (14, 0, a2))), some (vI xs0), some (vI x4)] rfl rfl <|
  k
theorem b_X5_readJoin_54 {d : Nat} {r : PO × PM} {I : Nat → Nat → Int} {S : PS} {a0 a1 a2 : Nat} {x3 x4 : Int} (kt : x3 = 0 → Ev d mX5_readJoin (60, [some (vR (some (20, 0, a0))), some (vR (some (11, 0, a1))), some (vR (some (14, 0, a2))), some (vI x3), some (vI x4)], [], (I, S)) r) (kf : x3 ≠ 0 → Ev d mX5_readJoin (58, [some (vR (some (20, 0, a0))), some (vR (some (11, 0, a1))), some (vR (some (14, 0, a2))), some (vI x3), some (vI x4)], [], (I, S)) r) : Ev d mX5_readJoin (54, [some (vR (some (20, 0, a0))), some (vR (some (11, 0, a1))), some (vR (some (14, 0, a2))), some (vI x3), some (vI x4)], [], (I, S)) r :=
  s_iload_n rfl rfl rfl <|
  s_if_eq 60 rfl rfl kt kf
theorem b_X5_readJoin_58 {d : Nat} {I : Nat → Nat → Int} {S : PS} {a0 a1 a2 : Nat} {x3 x4 : Int} : Ev d mX5_readJoin (58, [some (vR (some (20, 0, a0))), some (vR (some (11, 0, a1))), some (vR (some (14, 0, a2))), some (vI x3), some (vI x4)], [], (I, S)) (.inl (some (vI x3)), (I, S)) :=
  s_iload_n rfl rfl rfl <|
  s_ret rfl rfl
theorem b_X5_readJoin_60 {d : Nat} {r : PO × PM} {I : Nat → Nat → Int} {S : PS} {a0 a1 a2 : Nat} {x3 x4 z : Int} {I1 : Nat → Nat → Int} {S1 : PS} (c : Ca d mX3_addJoin [vR (some (14, 0, a2)), vI x4, vI (I a0 5)] (I, S) (.inl (some (vI z))) (I1, S1)) (k : Ev (d + 1) mX5_readJoin (70, [some (vR (some (20, 0, a0))), some (vR (some (11, 0, a1))), some (vR (some (14, 0, a2))), some (vI x3), some (vI x4)], [vI z], (I1, S1)) r) : Ev (d + 1) mX5_readJoin (60, [some (vR (some (20, 0, a0))), some (vR (some (11, 0, a1))), some (vR (some (14, 0, a2))), some (vI x3), some (vI x4)], [], (I, S)) r :=
  s_aload_n rfl rfl rfl <|
  s_iload rfl rfl rfl <|
  s_aload_n rfl rfl rfl <|
  s_getI rfl rfl rfl <|
  s_cvI rfl rfl rfl rfl rfl c k
theorem b_X5_readJoin_70 {d : Nat} {r : PO × PM} {I : Nat → Nat → Int} {S : PS} {a0 a1 a2 : Nat} {x3 x4 xs0 : Int} (kt : xs0 ≠ 0 → Ev d mX5_readJoin (75, [some (vR (some (20, 0, a0))), some (vR (some (11, 0, a1))), some (vR (some (14, 0, a2))), some (vI x3), some (vI x4)], [], (I, S)) r) (kf : xs0 = 0 → Ev d mX5_readJoin (73, [some (vR (some (20, 0, a0))), some (vR (some (11, 0, a1))), some (vR (some (14, 0, a2))), some (vI x3), some (vI x4)], [], (I, S)) r) : Ev d mX5_readJoin (70, [some (vR (some (20, 0, a0))), some (vR (some (11, 0, a1))), some (vR (some (14, 0, a2))), some (vI x3), some (vI x4)], [vI xs0], (I, S)) r :=
  s_if_ne 75 rfl rfl kt kf
theorem b_X5_readJoin_73 {d : Nat} {I : Nat → Nat → Int} {S : PS} {a0 a1 a2 : Nat} {x3 x4 : Int} : Ev d mX5_readJoin (73, [some (vR (some (20, 0, a0))), some (vR (some (11, 0, a1))), some (vR (some (14, 0, a2))), some (vI x3), some (vI x4)], [], (I, S)) (.inl (some (vI 4)), (I, S)) :=
  s_iconst rfl rfl <|
  s_ret rfl rfl
theorem b_X5_readJoin_75 {d : Nat} {r : PO × PM} {I : Nat → Nat → Int} {S : PS} {a0 a1 a2 : Nat} {x3 x4 : Int} {I1 : Nat → Nat → Int} {S1 : PS} (c : Ca d mX10_advance [vR (some (20, 0, a0))] (I, S) (.inl none) (I1, S1)) (k : Ev (d + 1) mX5_readJoin (79, [some (vR (some (20, 0, a0))), some (vR (some (11, 0, a1))), some (vR (some (14, 0, a2))), some (vI x3), some (vI x4)], [], (I1, S1)) r) : Ev (d + 1) mX5_readJoin (75, [some (vR (some (20, 0, a0))), some (vR (some (11, 0, a1))), some (vR (some (14, 0, a2))), some (vI x3), some (vI x4)], [], (I, S)) r :=
  s_aload_n rfl rfl rfl <|
  s_cvV rfl rfl rfl rfl rfl c k
theorem b_X5_readJoin_79 {d : Nat} {r : PO × PM} {I : Nat → Nat → Int} {S : PS} {a0 a1 a2 : Nat} {x3 x4 : Int} (kt : I a0 3 ≠ 3 → Ev d mX5_readJoin (91, [some (vR (some (20, 0, a0))), some (vR (some (11, 0, a1))), some (vR (some (14, 0, a2))), some (vI x3), some (vI x4)], [], (I, S)) r) (kf : I a0 3 = 3 → Ev d mX5_readJoin (87, [some (vR (some (20, 0, a0))), some (vR (some (11, 0, a1))), some (vR (some (14, 0, a2))), some (vI x3), some (vI x4)], [], (I, S)) r) : Ev d mX5_readJoin (79, [some (vR (some (20, 0, a0))), some (vR (some (11, 0, a1))), some (vR (some (14, 0, a2))), some (vI x3), some (vI x4)], [], (I, S)) r :=
  s_aload_n rfl rfl rfl <|
  s_getI rfl rfl rfl <|
  s_iconst rfl rfl <|
  s_icmp_ne 91 rfl rfl kt kf
theorem b_X5_readJoin_87 {d : Nat} {r : PO × PM} {I : Nat → Nat → Int} {S : PS} {a0 a1 a2 : Nat} {x3 x4 : Int} (k : Ev d mX5_readJoin (92, [some (vR (some (20, 0, a0))), some (vR (some (11, 0, a1))), some (vR (some (14, 0, a2))), some (vI x3), some (vI x4)], [vI 0], (I, S)) r) : Ev d mX5_readJoin (87, [some (vR (some (20, 0, a0))), some (vR (some (11, 0, a1))), some (vR (some (14, 0, a2))), some (vI x3), some (vI x4)], [], (I, S)) r :=
  s_iconst rfl rfl <|
  s_goto 92 rfl rfl k
theorem b_X5_readJoin_91 {d : Nat} {r : PO × PM} {I : Nat → Nat → Int} {S : PS} {a0 a1 a2 : Nat} {x3 x4 : Int} (k : Ev d mX5_readJoin (92, [some (vR (some (20, 0, a0))), some (vR (some (11, 0, a1))), some (vR (some (14, 0, a2))), some (vI x3), some (vI x4)], [vI 1], (I, S)) r) : Ev d mX5_readJoin (91, [some (vR (some (20, 0, a0))), some (vR (some (11, 0, a1))), some (vR (some (14, 0, a2))), some (vI x3), some (vI x4)], [], (I, S)) r :=
  s_iconst rfl rfl <|
  k
theorem b_X5_readJoin_92 {d : Nat} {I : Nat → Nat → Int} {S : PS} {a0 a1 a2 : Nat} {x3 x4 xs0 : Int} : Ev d mX5_readJoin (92, [some (vR (some (20, 0, a0))), some (vR (some (11, 0, a1))), some (vR (some (14, 0, a2))), some (vI x3), some (vI x4)], [vI xs0], (I, S)) (.inl (some (vI xs0)), (I, S)) :=
  s_ret rfl rfl
theorem b_X5_readVertex_0 {d : Nat} {r : PO × PM} {I : Nat → Nat → Int} {S : PS} {a0 a1 : Nat} {I1 : Nat → Nat → Int} {S1 : PS} {z : Int} (c : Ca d mX5_readNumber [vR (some (20, 0, a0)), vI 0, vI 9999] (I, S) (.inl (some (vI z))) (I1, S1)) (k : Ev (d + 1) mX5_readVertex (8, [some (vR (some (20, 0, a0))), some (vR (some (14, 0, a1))), none], [vI z], (I1, S1)) r) : Ev (d + 1) mX5_readVertex (0, [some (vR (some (20, 0, a0))), some (vR (some (14, 0, a1))), none], [], (I, S)) r :=
  s_aload_n rfl rfl rfl <|
  s_iconst rfl rfl <|
  s_sipush rfl rfl <|
  s_csI rfl rfl rfl rfl rfl rfl c k
theorem b_X5_readVertex_8 {d : Nat} {r : PO × PM} {I : Nat → Nat → Int} {S : PS} {a0 a1 : Nat} {xs0 : Int} (kt : xs0 = 0 → Ev d mX5_readVertex (15, [some (vR (some (20, 0, a0))), some (vR (some (14, 0, a1))), some (vI xs0)], [], (I, S)) r) (kf : xs0 ≠ 0 → Ev d mX5_readVertex (13, [some (vR (some (20, 0, a0))), some (vR (some (14, 0, a1))), some (vI xs0)], [], (I, S)) r) : Ev d mX5_readVertex (8, [some (vR (some (20, 0, a0))), some (vR (some (14, 0, a1))), none], [vI xs0], (I, S)) r :=
  s_istore_n [some (vR (some (20, 0, a0))), some (vR (some (14, 0, a1))), some (vI xs0)] rfl rfl <|
  s_iload_n rfl rfl rfl <|
  s_if_eq 15 rfl rfl kt kf
theorem b_X5_readVertex_13 {d : Nat} {I : Nat → Nat → Int} {S : PS} {a0 a1 : Nat} {x2 : Int} : Ev d mX5_readVertex (13, [some (vR (some (20, 0, a0))), some (vR (some (14, 0, a1))), some (vI x2)], [], (I, S)) (.inl (some (vI x2)), (I, S)) :=
  s_iload_n rfl rfl rfl <|
  s_ret rfl rfl
theorem b_X5_readVertex_15 {d : Nat} {r : PO × PM} {I : Nat → Nat → Int} {S : PS} {a0 a1 : Nat} {x2 : Int} (kt : I a1 4 ≤ I a0 5 → Ev d mX5_readVertex (30, [some (vR (some (20, 0, a0))), some (vR (some (14, 0, a1))), some (vI x2)], [], (I, S)) r) (kf : I a0 5 < I a1 4 → Ev d mX5_readVertex (26, [some (vR (some (20, 0, a0))), some (vR (some (14, 0, a1))), some (vI x2)], [], (I, S)) r) : Ev d mX5_readVertex (15, [some (vR (some (20, 0, a0))), some (vR (some (14, 0, a1))), some (vI x2)], [], (I, S)) r :=
  s_aload_n rfl rfl rfl <|
  s_getI rfl rfl rfl <|
  s_aload_n rfl rfl rfl <|
  s_getI rfl rfl rfl <|
  s_icmp_ge 30 rfl rfl kt kf
theorem b_X5_readVertex_26 {d : Nat} {r : PO × PM} {I : Nat → Nat → Int} {S : PS} {a0 a1 : Nat} {x2 : Int} (k : Ev d mX5_readVertex (31, [some (vR (some (20, 0, a0))), some (vR (some (14, 0, a1))), some (vI x2)], [vI 0], (I, S)) r) : Ev d mX5_readVertex (26, [some (vR (some (20, 0, a0))), some (vR (some (14, 0, a1))), some (vI x2)], [], (I, S)) r :=
  s_iconst rfl rfl <|
  s_goto 31 rfl rfl k
theorem b_X5_readVertex_30 {d : Nat} {r : PO × PM} {I : Nat → Nat → Int} {S : PS} {a0 a1 : Nat} {x2 : Int} (k : Ev d mX5_readVertex (31, [some (vR (some (20, 0, a0))), some (vR (some (14, 0, a1))), some (vI x2)], [vI 3], (I, S)) r) : Ev d mX5_readVertex (30, [some (vR (some (20, 0, a0))), some (vR (some (14, 0, a1))), some (vI x2)], [], (I, S)) r :=
  s_iconst rfl rfl <|
  k
theorem b_X5_readVertex_31 {d : Nat} {I : Nat → Nat → Int} {S : PS} {a0 a1 : Nat} {x2 xs0 : Int} : Ev d mX5_readVertex (31, [some (vR (some (20, 0, a0))), some (vR (some (14, 0, a1))), some (vI x2)], [vI xs0], (I, S)) (.inl (some (vI xs0)), (I, S)) :=
  s_ret rfl rfl
theorem b_X5_readRule_0 {d : Nat} {r : PO × PM} {I : Nat → Nat → Int} {S : PS} {a0 a1 p1 : Nat} (hr1 : S.1 a1 2 = some (17, 0, p1)) (kt : I p1 0 < 6 → Ev d mX5_readRule (16, [some (vR (some (20, 0, a0))), some (vR (some (11, 0, a1))), some (vR (some (17, 0, p1))), none, none], [], (I, S)) r) (kf : 6 ≤ I p1 0 → Ev d mX5_readRule (14, [some (vR (some (20, 0, a0))), some (vR (some (11, 0, a1))), some (vR (some (17, 0, p1))), none, none], [], (I, S)) r) : Ev d mX5_readRule (0, [some (vR (some (20, 0, a0))), some (vR (some (11, 0, a1))), none, none, none], [], (I, S)) r :=
  s_aload_n rfl rfl rfl <|
  s_getR rfl rfl rfl hr1 <|
  s_astore_n [some (vR (some (20, 0, a0))), some (vR (some (11, 0, a1))), some (vR (some (17, 0, p1))), none, none] rfl rfl <|
  s_aload_n rfl rfl rfl <|
  s_getI rfl rfl rfl <|
  s_bipush rfl rfl <|
  s_icmp_lt 16 rfl rfl kt kf
theorem b_X5_readRule_14 {d : Nat} {I : Nat → Nat → Int} {S : PS} {a0 a1 a2 : Nat} : Ev d mX5_readRule (14, [some (vR (some (20, 0, a0))), some (vR (some (11, 0, a1))), some (vR (some (17, 0, a2))), none, none], [], (I, S)) (.inl (some (vI 2)), (I, S)) :=
  s_iconst rfl rfl <|
  s_ret rfl rfl
theorem b_X5_readRule_16 {d : Nat} {r : PO × PM} {I : Nat → Nat → Int} {S : PS} {a0 a1 a2 : Nat} {I1 : Nat → Nat → Int} {S1 : PS} {z : Int} (c : Ca d mX5_readNumber [vR (some (20, 0, a0)), vI 1, vI 99] (I, S) (.inl (some (vI z))) (I1, S1)) (k : Ev (d + 1) mX5_readRule (23, [some (vR (some (20, 0, a0))), some (vR (some (11, 0, a1))), some (vR (some (17, 0, a2))), none, none], [vI z], (I1, S1)) r) : Ev (d + 1) mX5_readRule (16, [some (vR (some (20, 0, a0))), some (vR (some (11, 0, a1))), some (vR (some (17, 0, a2))), none, none], [], (I, S)) r :=
  s_aload_n rfl rfl rfl <|
  s_iconst rfl rfl <|
  s_bipush rfl rfl <|
  s_csI rfl rfl rfl rfl rfl rfl c k
theorem b_X5_readRule_23 {d : Nat} {r : PO × PM} {I : Nat → Nat → Int} {S : PS} {a0 a1 a2 : Nat} {xs0 : Int} (kt : xs0 = 0 → Ev d mX5_readRule (30, [some (vR (some (20, 0, a0))), some (vR (some (11, 0, a1))), some (vR (some (17, 0, a2))), some (vI xs0), none], [], (I, S)) r) (kf : xs0 ≠ 0 → Ev d mX5_readRule (28, [some (vR (some (20, 0, a0))), some (vR (some (11, 0, a1))), some (vR (some (17, 0, a2))), some (vI xs0), none], [], (I, S)) r) : Ev d mX5_readRule (23, [some (vR (some (20, 0, a0))), some (vR (some (11, 0, a1))), some (vR (some (17, 0, a2))), none, none], [vI xs0], (I, S)) r :=
  s_istore_n [some (vR (some (20, 0, a0))), some (vR (some (11, 0, a1))), some (vR (some (17, 0, a2))), some (vI xs0), none] rfl rfl <|
  s_iload_n rfl rfl rfl <|
  s_if_eq 30 rfl rfl kt kf
theorem b_X5_readRule_28 {d : Nat} {I : Nat → Nat → Int} {S : PS} {a0 a1 a2 : Nat} {x3 : Int} : Ev d mX5_readRule (28, [some (vR (some (20, 0, a0))), some (vR (some (11, 0, a1))), some (vR (some (17, 0, a2))), some (vI x3), none], [], (I, S)) (.inl (some (vI x3)), (I, S)) :=
  s_iload_n rfl rfl rfl <|
  s_ret rfl rfl
theorem b_X5_readRule_30 {d : Nat} {r : PO × PM} {I : Nat → Nat → Int} {S : PS} {a0 a1 a2 : Nat} {x3 : Int} {I1 : Nat → Nat → Int} {S1 : PS} (c : Ca d mX7_begin [vR (some (17, 0, a2)), vI (I a0 5)] (I, S) (.inl none) (I1, S1)) (k : Ev (d + 1) mX5_readRule (38, [some (vR (some (20, 0, a0))), some (vR (some (11, 0, a1))), some (vR (some (17, 0, a2))), some (vI x3), none], [], (I1, S1)) r) : Ev (d + 1) mX5_readRule (30, [some (vR (some (20, 0, a0))), some (vR (some (11, 0, a1))), some (vR (some (17, 0, a2))), some (vI x3), none], [], (I, S)) r :=
  s_aload_n rfl rfl rfl <|
  s_aload_n rfl rfl rfl <|
  s_getI rfl rfl rfl <|
  s_cvV rfl rfl rfl rfl rfl c k
theorem b_X5_readRule_38 {d : Nat} {r : PO × PM} {I : Nat → Nat → Int} {S : PS} {a0 a1 a2 : Nat} {x3 : Int} {I1 : Nat → Nat → Int} {S1 : PS} (c : Ca d mX10_advance [vR (some (20, 0, a0))] (I, S) (.inl none) (I1, S1)) (k : Ev (d + 1) mX5_readRule (42, [some (vR (some (20, 0, a0))), some (vR (some (11, 0, a1))), some (vR (some (17, 0, a2))), some (vI x3), none], [], (I1, S1)) r) : Ev (d + 1) mX5_readRule (38, [some (vR (some (20, 0, a0))), some (vR (some (11, 0, a1))), some (vR (some (17, 0, a2))), some (vI x3), none], [], (I, S)) r :=
  s_aload_n rfl rfl rfl <|
  s_cvV rfl rfl rfl rfl rfl c k
theorem b_X5_readRule_42 {d : Nat} {r : PO × PM} {I : Nat → Nat → Int} {S : PS} {a0 a1 a2 : Nat} {x3 z : Int} {I1 : Nat → Nat → Int} {S1 : PS} (c : Ca d mX10_isWord [vR (some (20, 0, a0)), vR (some (6, 4, 12))] (I, S) (.inl (some (vI z))) (I1, S1)) (k : Ev (d + 1) mX5_readRule (48, [some (vR (some (20, 0, a0))), some (vR (some (11, 0, a1))), some (vR (some (17, 0, a2))), some (vI x3), none], [vI z], (I1, S1)) r) : Ev (d + 1) mX5_readRule (42, [some (vR (some (20, 0, a0))), some (vR (some (11, 0, a1))), some (vR (some (17, 0, a2))), some (vI x3), none], [], (I, S)) r :=
  s_aload_n rfl rfl rfl <|
  s_ldc rfl rfl <|
  s_cvI rfl rfl rfl rfl rfl c k
theorem b_X5_readRule_48 {d : Nat} {r : PO × PM} {I : Nat → Nat → Int} {S : PS} {a0 a1 a2 : Nat} {x3 xs0 : Int} (kt : xs0 = 0 → Ev d mX5_readRule (60, [some (vR (some (20, 0, a0))), some (vR (some (11, 0, a1))), some (vR (some (17, 0, a2))), some (vI x3), none], [], (I, S)) r) (kf : xs0 ≠ 0 → Ev d mX5_readRule (51, [some (vR (some (20, 0, a0))), some (vR (some (11, 0, a1))), some (vR (some (17, 0, a2))), some (vI x3), none], [], (I, S)) r) : Ev d mX5_readRule (48, [some (vR (some (20, 0, a0))), some (vR (some (11, 0, a1))), some (vR (some (17, 0, a2))), some (vI x3), none], [vI xs0], (I, S)) r :=
  s_if_eq 60 rfl rfl kt kf
theorem b_X5_readRule_51 {d : Nat} {r : PO × PM} {I : Nat → Nat → Int} {S : PS} {a0 a1 a2 : Nat} {x3 z : Int} {I1 : Nat → Nat → Int} {S1 : PS} (c : Ca d mX5_readRange [vR (some (20, 0, a0)), vR (some (17, 0, a2)), vI 1] (I, S) (.inl (some (vI z))) (I1, S1)) (k : Ev (d + 1) mX5_readRule (57, [some (vR (some (20, 0, a0))), some (vR (some (11, 0, a1))), some (vR (some (17, 0, a2))), some (vI x3), none], [vI z], (I1, S1)) r) : Ev (d + 1) mX5_readRule (51, [some (vR (some (20, 0, a0))), some (vR (some (11, 0, a1))), some (vR (some (17, 0, a2))), some (vI x3), none], [], (I, S)) r :=
  s_aload_n rfl rfl rfl <|
  s_aload_n rfl rfl rfl <|
  s_iconst rfl rfl <|
  s_csI rfl rfl rfl rfl rfl rfl c k
theorem b_X5_readRule_57 {d : Nat} {r : PO × PM} {I : Nat → Nat → Int} {S : PS} {a0 a1 a2 : Nat} {x3 xs0 : Int} (k : Ev d mX5_readRule (61, [some (vR (some (20, 0, a0))), some (vR (some (11, 0, a1))), some (vR (some (17, 0, a2))), some (vI x3), none], [vI xs0], (I, S)) r) : Ev d mX5_readRule (57, [some (vR (some (20, 0, a0))), some (vR (some (11, 0, a1))), some (vR (some (17, 0, a2))), some (vI x3), none], [vI xs0], (I, S)) r :=
  s_goto 61 rfl rfl k
theorem b_X5_readRule_60 {d : Nat} {r : PO × PM} {I : Nat → Nat → Int} {S : PS} {a0 a1 a2 : Nat} {x3 : Int} (k : Ev d mX5_readRule (61, [some (vR (some (20, 0, a0))), some (vR (some (11, 0, a1))), some (vR (some (17, 0, a2))), some (vI x3), none], [vI 1], (I, S)) r) : Ev d mX5_readRule (60, [some (vR (some (20, 0, a0))), some (vR (some (11, 0, a1))), some (vR (some (17, 0, a2))), some (vI x3), none], [], (I, S)) r :=
  s_iconst rfl rfl <|
  k
theorem b_X5_readRule_61 {d : Nat} {r : PO × PM} {I : Nat → Nat → Int} {S : PS} {a0 a1 a2 : Nat} {x3 xs0 : Int} (kt : xs0 = 0 → Ev d mX5_readRule (68, [some (vR (some (20, 0, a0))), some (vR (some (11, 0, a1))), some (vR (some (17, 0, a2))), some (vI xs0), none], [], (I, S)) r) (kf : xs0 ≠ 0 → Ev d mX5_readRule (66, [some (vR (some (20, 0, a0))), some (vR (some (11, 0, a1))), some (vR (some (17, 0, a2))), some (vI xs0), none], [], (I, S)) r) : Ev d mX5_readRule (61, [some (vR (some (20, 0, a0))), some (vR (some (11, 0, a1))), some (vR (some (17, 0, a2))), some (vI x3), none], [vI xs0], (I, S)) r :=
  s_istore_n [some (vR (some (20, 0, a0))), some (vR (some (11, 0, a1))), some (vR (some (17, 0, a2))), some (vI xs0), none] rfl rfl <|
  s_iload_n rfl rfl rfl <|
  s_if_eq 68 rfl rfl kt kf
theorem b_X5_readRule_66 {d : Nat} {I : Nat → Nat → Int} {S : PS} {a0 a1 a2 : Nat} {x3 : Int} : Ev d mX5_readRule (66, [some (vR (some (20, 0, a0))), some (vR (some (11, 0, a1))), some (vR (some (17, 0, a2))), some (vI x3), none], [], (I, S)) (.inl (some (vI x3)), (I, S)) :=
  s_iload_n rfl rfl rfl <|
  s_ret rfl rfl
theorem b_X5_readRule_68 {d : Nat} {r : PO × PM} {I : Nat → Nat → Int} {S : PS} {a0 a1 a2 : Nat} {x3 : Int} {I1 : Nat → Nat → Int} {S1 : PS} (c : Ca d mX10_advance [vR (some (20, 0, a0))] (I, S) (.inl none) (I1, S1)) (k : Ev (d + 1) mX5_readRule (72, [some (vR (some (20, 0, a0))), some (vR (some (11, 0, a1))), some (vR (some (17, 0, a2))), some (vI x3), none], [], (I1, S1)) r) : Ev (d + 1) mX5_readRule (68, [some (vR (some (20, 0, a0))), some (vR (some (11, 0, a1))), some (vR (some (17, 0, a2))), some (vI x3), none], [], (I, S)) r :=
  s_aload_n rfl rfl rfl <|
  s_cvV rfl rfl rfl rfl rfl c k
theorem b_X5_readRule_72 {d : Nat} {r : PO × PM} {I : Nat → Nat → Int} {S : PS} {a0 a1 a2 : Nat} {x3 z : Int} {I1 : Nat → Nat → Int} {S1 : PS} (c : Ca d mX10_isWord [vR (some (20, 0, a0)), vR (some (6, 2, 14))] (I, S) (.inl (some (vI z))) (I1, S1)) (k : Ev (d + 1) mX5_readRule (78, [some (vR (some (20, 0, a0))), some (vR (some (11, 0, a1))), some (vR (some (17, 0, a2))), some (vI x3), none], [vI z], (I1, S1)) r) : Ev (d + 1) mX5_readRule (72, [some (vR (some (20, 0, a0))), some (vR (some (11, 0, a1))), some (vR (some (17, 0, a2))), some (vI x3), none], [], (I, S)) r :=
  s_aload_n rfl rfl rfl <|
  s_ldc rfl rfl <|
  s_cvI rfl rfl rfl rfl rfl c k
theorem b_X5_readRule_78 {d : Nat} {r : PO × PM} {I : Nat → Nat → Int} {S : PS} {a0 a1 a2 : Nat} {x3 xs0 : Int} (kt : xs0 = 0 → Ev d mX5_readRule (90, [some (vR (some (20, 0, a0))), some (vR (some (11, 0, a1))), some (vR (some (17, 0, a2))), some (vI x3), none], [], (I, S)) r) (kf : xs0 ≠ 0 → Ev d mX5_readRule (81, [some (vR (some (20, 0, a0))), some (vR (some (11, 0, a1))), some (vR (some (17, 0, a2))), some (vI x3), none], [], (I, S)) r) : Ev d mX5_readRule (78, [some (vR (some (20, 0, a0))), some (vR (some (11, 0, a1))), some (vR (some (17, 0, a2))), some (vI x3), none], [vI xs0], (I, S)) r :=
  s_if_eq 90 rfl rfl kt kf
theorem b_X5_readRule_81 {d : Nat} {r : PO × PM} {I : Nat → Nat → Int} {S : PS} {a0 a1 a2 : Nat} {x3 z : Int} {I1 : Nat → Nat → Int} {S1 : PS} (c : Ca d mX5_readRange [vR (some (20, 0, a0)), vR (some (17, 0, a2)), vI 3] (I, S) (.inl (some (vI z))) (I1, S1)) (k : Ev (d + 1) mX5_readRule (87, [some (vR (some (20, 0, a0))), some (vR (some (11, 0, a1))), some (vR (some (17, 0, a2))), some (vI x3), none], [vI z], (I1, S1)) r) : Ev (d + 1) mX5_readRule (81, [some (vR (some (20, 0, a0))), some (vR (some (11, 0, a1))), some (vR (some (17, 0, a2))), some (vI x3), none], [], (I, S)) r :=
  s_aload_n rfl rfl rfl <|
  s_aload_n rfl rfl rfl <|
  s_iconst rfl rfl <|
  s_csI rfl rfl rfl rfl rfl rfl c k
theorem b_X5_readRule_87 {d : Nat} {r : PO × PM} {I : Nat → Nat → Int} {S : PS} {a0 a1 a2 : Nat} {x3 xs0 : Int} (k : Ev d mX5_readRule (91, [some (vR (some (20, 0, a0))), some (vR (some (11, 0, a1))), some (vR (some (17, 0, a2))), some (vI x3), none], [vI xs0], (I, S)) r) : Ev d mX5_readRule (87, [some (vR (some (20, 0, a0))), some (vR (some (11, 0, a1))), some (vR (some (17, 0, a2))), some (vI x3), none], [vI xs0], (I, S)) r :=
  s_goto 91 rfl rfl k
theorem b_X5_readRule_90 {d : Nat} {r : PO × PM} {I : Nat → Nat → Int} {S : PS} {a0 a1 a2 : Nat} {x3 : Int} (k : Ev d mX5_readRule (91, [some (vR (some (20, 0, a0))), some (vR (some (11, 0, a1))), some (vR (some (17, 0, a2))), some (vI x3), none], [vI 1], (I, S)) r) : Ev d mX5_readRule (90, [some (vR (some (20, 0, a0))), some (vR (some (11, 0, a1))), some (vR (some (17, 0, a2))), some (vI x3), none], [], (I, S)) r :=
  s_iconst rfl rfl <|
  k
theorem b_X5_readRule_91 {d : Nat} {r : PO × PM} {I : Nat → Nat → Int} {S : PS} {a0 a1 a2 : Nat} {x3 xs0 : Int} (kt : xs0 = 0 → Ev d mX5_readRule (98, [some (vR (some (20, 0, a0))), some (vR (some (11, 0, a1))), some (vR (some (17, 0, a2))), some (vI xs0), none], [], (I, S)) r) (kf : xs0 ≠ 0 → Ev d mX5_readRule (96, [some (vR (some (20, 0, a0))), some (vR (some (11, 0, a1))), some (vR (some (17, 0, a2))), some (vI xs0), none], [], (I, S)) r) : Ev d mX5_readRule (91, [some (vR (some (20, 0, a0))), some (vR (some (11, 0, a1))), some (vR (some (17, 0, a2))), some (vI x3), none], [vI xs0], (I, S)) r :=
  s_istore_n [some (vR (some (20, 0, a0))), some (vR (some (11, 0, a1))), some (vR (some (17, 0, a2))), some (vI xs0), none] rfl rfl <|
  s_iload_n rfl rfl rfl <|
  s_if_eq 98 rfl rfl kt kf
theorem b_X5_readRule_96 {d : Nat} {I : Nat → Nat → Int} {S : PS} {a0 a1 a2 : Nat} {x3 : Int} : Ev d mX5_readRule (96, [some (vR (some (20, 0, a0))), some (vR (some (11, 0, a1))), some (vR (some (17, 0, a2))), some (vI x3), none], [], (I, S)) (.inl (some (vI x3)), (I, S)) :=
  s_iload_n rfl rfl rfl <|
  s_ret rfl rfl
theorem b_X5_readRule_98 {d : Nat} {r : PO × PM} {I : Nat → Nat → Int} {S : PS} {a0 a1 a2 : Nat} {x3 : Int} {I1 : Nat → Nat → Int} {S1 : PS} (c : Ca d mX10_advance [vR (some (20, 0, a0))] (I, S) (.inl none) (I1, S1)) (k : Ev (d + 1) mX5_readRule (102, [some (vR (some (20, 0, a0))), some (vR (some (11, 0, a1))), some (vR (some (17, 0, a2))), some (vI x3), none], [], (I1, S1)) r) : Ev (d + 1) mX5_readRule (98, [some (vR (some (20, 0, a0))), some (vR (some (11, 0, a1))), some (vR (some (17, 0, a2))), some (vI x3), none], [], (I, S)) r :=
  s_aload_n rfl rfl rfl <|
  s_cvV rfl rfl rfl rfl rfl c k
theorem b_X5_readRule_102 {d : Nat} {r : PO × PM} {I : Nat → Nat → Int} {S : PS} {a0 a1 a2 : Nat} {x3 z : Int} {I1 : Nat → Nat → Int} {S1 : PS} (c : Ca d mX10_isWord [vR (some (20, 0, a0)), vR (some (6, 4, 16))] (I, S) (.inl (some (vI z))) (I1, S1)) (k : Ev (d + 1) mX5_readRule (108, [some (vR (some (20, 0, a0))), some (vR (some (11, 0, a1))), some (vR (some (17, 0, a2))), some (vI x3), none], [vI z], (I1, S1)) r) : Ev (d + 1) mX5_readRule (102, [some (vR (some (20, 0, a0))), some (vR (some (11, 0, a1))), some (vR (some (17, 0, a2))), some (vI x3), none], [], (I, S)) r :=
  s_aload_n rfl rfl rfl <|
  s_ldc rfl rfl <|
  s_cvI rfl rfl rfl rfl rfl c k
theorem b_X5_readRule_108 {d : Nat} {r : PO × PM} {I : Nat → Nat → Int} {S : PS} {a0 a1 a2 : Nat} {x3 xs0 : Int} (kt : xs0 = 0 → Ev d mX5_readRule (115, [some (vR (some (20, 0, a0))), some (vR (some (11, 0, a1))), some (vR (some (17, 0, a2))), some (vI x3), none], [], (I, S)) r) (kf : xs0 ≠ 0 → Ev d mX5_readRule (111, [some (vR (some (20, 0, a0))), some (vR (some (11, 0, a1))), some (vR (some (17, 0, a2))), some (vI x3), none], [], (I, S)) r) : Ev d mX5_readRule (108, [some (vR (some (20, 0, a0))), some (vR (some (11, 0, a1))), some (vR (some (17, 0, a2))), some (vI x3), none], [vI xs0], (I, S)) r :=
  s_if_eq 115 rfl rfl kt kf
theorem b_X5_readRule_111 {d : Nat} {r : PO × PM} {I : Nat → Nat → Int} {S : PS} {a0 a1 a2 : Nat} {x3 : Int} (k : Ev d mX5_readRule (129, [some (vR (some (20, 0, a0))), some (vR (some (11, 0, a1))), some (vR (some (17, 0, a2))), some (vI x3), none], [vI 1], (I, S)) r) : Ev d mX5_readRule (111, [some (vR (some (20, 0, a0))), some (vR (some (11, 0, a1))), some (vR (some (17, 0, a2))), some (vI x3), none], [], (I, S)) r :=
  s_iconst rfl rfl <|
  s_goto 129 rfl rfl k
theorem b_X5_readRule_115 {d : Nat} {r : PO × PM} {I : Nat → Nat → Int} {S : PS} {a0 a1 a2 : Nat} {x3 z : Int} {I1 : Nat → Nat → Int} {S1 : PS} (c : Ca d mX10_isWord [vR (some (20, 0, a0)), vR (some (6, 4, 18))] (I, S) (.inl (some (vI z))) (I1, S1)) (k : Ev (d + 1) mX5_readRule (121, [some (vR (some (20, 0, a0))), some (vR (some (11, 0, a1))), some (vR (some (17, 0, a2))), some (vI x3), none], [vI z], (I1, S1)) r) : Ev (d + 1) mX5_readRule (115, [some (vR (some (20, 0, a0))), some (vR (some (11, 0, a1))), some (vR (some (17, 0, a2))), some (vI x3), none], [], (I, S)) r :=
  s_aload_n rfl rfl rfl <|
  s_ldc rfl rfl <|
  s_cvI rfl rfl rfl rfl rfl c k
theorem b_X5_readRule_121 {d : Nat} {r : PO × PM} {I : Nat → Nat → Int} {S : PS} {a0 a1 a2 : Nat} {x3 xs0 : Int} (kt : xs0 = 0 → Ev d mX5_readRule (128, [some (vR (some (20, 0, a0))), some (vR (some (11, 0, a1))), some (vR (some (17, 0, a2))), some (vI x3), none], [], (I, S)) r) (kf : xs0 ≠ 0 → Ev d mX5_readRule (124, [some (vR (some (20, 0, a0))), some (vR (some (11, 0, a1))), some (vR (some (17, 0, a2))), some (vI x3), none], [], (I, S)) r) : Ev d mX5_readRule (121, [some (vR (some (20, 0, a0))), some (vR (some (11, 0, a1))), some (vR (some (17, 0, a2))), some (vI x3), none], [vI xs0], (I, S)) r :=
  s_if_eq 128 rfl rfl kt kf
theorem b_X5_readRule_124 {d : Nat} {r : PO × PM} {I : Nat → Nat → Int} {S : PS} {a0 a1 a2 : Nat} {x3 : Int} (k : Ev d mX5_readRule (129, [some (vR (some (20, 0, a0))), some (vR (some (11, 0, a1))), some (vR (some (17, 0, a2))), some (vI x3), none], [vI 2], (I, S)) r) : Ev d mX5_readRule (124, [some (vR (some (20, 0, a0))), some (vR (some (11, 0, a1))), some (vR (some (17, 0, a2))), some (vI x3), none], [], (I, S)) r :=
  s_iconst rfl rfl <|
  s_goto 129 rfl rfl k
theorem b_X5_readRule_128 {d : Nat} {r : PO × PM} {I : Nat → Nat → Int} {S : PS} {a0 a1 a2 : Nat} {x3 : Int} (k : Ev d mX5_readRule (129, [some (vR (some (20, 0, a0))), some (vR (some (11, 0, a1))), some (vR (some (17, 0, a2))), some (vI x3), none], [vI 0], (I, S)) r) : Ev d mX5_readRule (128, [some (vR (some (20, 0, a0))), some (vR (some (11, 0, a1))), some (vR (some (17, 0, a2))), some (vI x3), none], [], (I, S)) r :=
  s_iconst rfl rfl <|
  k
theorem b_X5_readRule_129 {d : Nat} {r : PO × PM} {I : Nat → Nat → Int} {S : PS} {a0 a1 a2 : Nat} {x3 xs0 : Int} (kt : xs0 = 0 → Ev d mX5_readRule (161, [some (vR (some (20, 0, a0))), some (vR (some (11, 0, a1))), some (vR (some (17, 0, a2))), some (vI x3), some (vI xs0)], [], (I, S)) r) (kf : xs0 ≠ 0 → Ev d mX5_readRule (136, [some (vR (some (20, 0, a0))), some (vR (some (11, 0, a1))), some (vR (some (17, 0, a2))), some (vI x3), some (vI xs0)], [], (I, S)) r) : Ev d mX5_readRule (129, [some (vR (some (20, 0, a0))), some (vR (some (11, 0, a1))), some (vR (some (17, 0, a2))), some (vI x3), none], [vI xs0], (I, S)) r :=
  s_istore [some (vR (some (20, 0, a0))), some (vR (some (11, 0, a1))), some (vR (some (17, 0, a2))), some (vI x3), some (vI xs0)] rfl rfl <|
  s_iload rfl rfl rfl <|
  s_if_eq 161 rfl rfl kt kf
theorem b_X5_readRule_136 {d : Nat} {r : PO × PM} {I : Nat → Nat → Int} {S : PS} {a0 a1 a2 : Nat} {x3 x4 : Int} {I1 : Nat → Nat → Int} {S1 : PS} (c : Ca d mX7_tell [vR (some (17, 0, a2)), vI 7, vI x4] (I, S) (.inl none) (I1, S1)) (k : Ev (d + 1) mX5_readRule (144, [some (vR (some (20, 0, a0))), some (vR (some (11, 0, a1))), some (vR (some (17, 0, a2))), some (vI x3), some (vI x4)], [], (I1, S1)) r) : Ev (d + 1) mX5_readRule (136, [some (vR (some (20, 0, a0))), some (vR (some (11, 0, a1))), some (vR (some (17, 0, a2))), some (vI x3), some (vI x4)], [], (I, S)) r :=
  s_aload_n rfl rfl rfl <|
  s_bipush rfl rfl <|
  s_iload rfl rfl rfl <|
  s_cvV rfl rfl rfl rfl rfl c k
theorem b_X5_readRule_144 {d : Nat} {r : PO × PM} {I : Nat → Nat → Int} {S : PS} {a0 a1 a2 : Nat} {x3 x4 z : Int} {I1 : Nat → Nat → Int} {S1 : PS} (c : Ca d mX5_readRange [vR (some (20, 0, a0)), vR (some (17, 0, a2)), vI 5] (I, S) (.inl (some (vI z))) (I1, S1)) (k : Ev (d + 1) mX5_readRule (150, [some (vR (some (20, 0, a0))), some (vR (some (11, 0, a1))), some (vR (some (17, 0, a2))), some (vI x3), some (vI x4)], [vI z], (I1, S1)) r) : Ev (d + 1) mX5_readRule (144, [some (vR (some (20, 0, a0))), some (vR (some (11, 0, a1))), some (vR (some (17, 0, a2))), some (vI x3), some (vI x4)], [], (I, S)) r :=
  s_aload_n rfl rfl rfl <|
  s_aload_n rfl rfl rfl <|
  s_iconst rfl rfl <|
  s_csI rfl rfl rfl rfl rfl rfl c k
theorem b_X5_readRule_150 {d : Nat} {r : PO × PM} {I : Nat → Nat → Int} {S : PS} {a0 a1 a2 : Nat} {x3 x4 xs0 : Int} (kt : xs0 = 0 → Ev d mX5_readRule (157, [some (vR (some (20, 0, a0))), some (vR (some (11, 0, a1))), some (vR (some (17, 0, a2))), some (vI xs0), some (vI x4)], [], (I, S)) r) (kf : xs0 ≠ 0 → Ev d mX5_readRule (155, [some (vR (some (20, 0, a0))), some (vR (some (11, 0, a1))), some (vR (some (17, 0, a2))), some (vI xs0), some (vI x4)], [], (I, S)) r) : Ev d mX5_readRule (150, [some (vR (some (20, 0, a0))), some (vR (some (11, 0, a1))), some (vR (some (17, 0, a2))), some (vI x3), some (vI x4)], [vI xs0], (I, S)) r :=
  s_istore_n [some (vR (some (20, 0, a0))), some (vR (some (11, 0, a1))), some (vR (some (17, 0, a2))), some (vI xs0), some (vI x4)] rfl rfl <|
  s_iload_n rfl rfl rfl <|
  s_if_eq 157 rfl rfl kt kf
theorem b_X5_readRule_155 {d : Nat} {I : Nat → Nat → Int} {S : PS} {a0 a1 a2 : Nat} {x3 x4 : Int} : Ev d mX5_readRule (155, [some (vR (some (20, 0, a0))), some (vR (some (11, 0, a1))), some (vR (some (17, 0, a2))), some (vI x3), some (vI x4)], [], (I, S)) (.inl (some (vI x3)), (I, S)) :=
  s_iload_n rfl rfl rfl <|
  s_ret rfl rfl
theorem b_X5_readRule_157 {d : Nat} {r : PO × PM} {I : Nat → Nat → Int} {S : PS} {a0 a1 a2 : Nat} {x3 x4 : Int} {I1 : Nat → Nat → Int} {S1 : PS} (c : Ca d mX10_advance [vR (some (20, 0, a0))] (I, S) (.inl none) (I1, S1)) (k : Ev (d + 1) mX5_readRule (161, [some (vR (some (20, 0, a0))), some (vR (some (11, 0, a1))), some (vR (some (17, 0, a2))), some (vI x3), some (vI x4)], [], (I1, S1)) r) : Ev (d + 1) mX5_readRule (157, [some (vR (some (20, 0, a0))), some (vR (some (11, 0, a1))), some (vR (some (17, 0, a2))), some (vI x3), some (vI x4)], [], (I, S)) r :=
  s_aload_n rfl rfl rfl <|
  s_cvV rfl rfl rfl rfl rfl c k
theorem b_X5_readRule_161 {d : Nat} {r : PO × PM} {I : Nat → Nat → Int} {S : PS} {a0 a1 a2 : Nat} {x3 x4 : Int} (kt : I a0 3 ≠ 3 → Ev d mX5_readRule (176, [some (vR (some (20, 0, a0))), some (vR (some (11, 0, a1))), some (vR (some (17, 0, a2))), some (vI x3), some (vI x4)], [], (I, S)) r) (kf : I a0 3 = 3 → Ev d mX5_readRule (169, [some (vR (some (20, 0, a0))), some (vR (some (11, 0, a1))), some (vR (some (17, 0, a2))), some (vI x3), some (vI x4)], [], (I, S)) r) : Ev d mX5_readRule (161, [some (vR (some (20, 0, a0))), some (vR (some (11, 0, a1))), some (vR (some (17, 0, a2))), some (vI x3), some (vI x4)], [], (I, S)) r :=
  s_aload_n rfl rfl rfl <|
  s_getI rfl rfl rfl <|
  s_iconst rfl rfl <|
  s_icmp_ne 176 rfl rfl kt kf
theorem b_X5_readRule_169 {d : Nat} {r : PO × PM} {I : Nat → Nat → Int} {S : PS} {a0 a1 a2 : Nat} {x3 x4 z : Int} {I1 : Nat → Nat → Int} {S1 : PS} (c : Ca d mX7_keepRule [vR (some (17, 0, a2))] (I, S) (.inl (some (vI z))) (I1, S1)) (k : Ev (d + 1) mX5_readRule (173, [some (vR (some (20, 0, a0))), some (vR (some (11, 0, a1))), some (vR (some (17, 0, a2))), some (vI x3), some (vI x4)], [vI z], (I1, S1)) r) : Ev (d + 1) mX5_readRule (169, [some (vR (some (20, 0, a0))), some (vR (some (11, 0, a1))), some (vR (some (17, 0, a2))), some (vI x3), some (vI x4)], [], (I, S)) r :=
  s_aload_n rfl rfl rfl <|
  s_cvI rfl rfl rfl rfl rfl c k
theorem b_X5_readRule_173 {d : Nat} {r : PO × PM} {I : Nat → Nat → Int} {S : PS} {a0 a1 a2 : Nat} {x3 x4 xs0 : Int} (k : Ev d mX5_readRule (177, [some (vR (some (20, 0, a0))), some (vR (some (11, 0, a1))), some (vR (some (17, 0, a2))), some (vI x3), some (vI x4)], [vI xs0], (I, S)) r) : Ev d mX5_readRule (173, [some (vR (some (20, 0, a0))), some (vR (some (11, 0, a1))), some (vR (some (17, 0, a2))), some (vI x3), some (vI x4)], [vI xs0], (I, S)) r :=
  s_goto 177 rfl rfl k
theorem b_X5_readRule_176 {d : Nat} {r : PO × PM} {I : Nat → Nat → Int} {S : PS} {a0 a1 a2 : Nat} {x3 x4 : Int} (k : Ev d mX5_readRule (177, [some (vR (some (20, 0, a0))), some (vR (some (11, 0, a1))), some (vR (some (17, 0, a2))), some (vI x3), some (vI x4)], [vI 1], (I, S)) r) : Ev d mX5_readRule (176, [some (vR (some (20, 0, a0))), some (vR (some (11, 0, a1))), some (vR (some (17, 0, a2))), some (vI x3), some (vI x4)], [], (I, S)) r :=
  s_iconst rfl rfl <|
  k
theorem b_X5_readRule_177 {d : Nat} {I : Nat → Nat → Int} {S : PS} {a0 a1 a2 : Nat} {x3 x4 xs0 : Int} : Ev d mX5_readRule (177, [some (vR (some (20, 0, a0))), some (vR (some (11, 0, a1))), some (vR (some (17, 0, a2))), some (vI x3), some (vI x4)], [vI xs0], (I, S)) (.inl (some (vI xs0)), (I, S)) :=
  s_ret rfl rfl
theorem b_X5_readRange_0 {d : Nat} {r : PO × PM} {I : Nat → Nat → Int} {S : PS} {a0 a1 : Nat} {x2 z : Int} {I1 : Nat → Nat → Int} {S1 : PS} (c : Ca d mX5_readNumber [vR (some (20, 0, a0)), vI 3, vI 9] (I, S) (.inl (some (vI z))) (I1, S1)) (k : Ev (d + 1) mX5_readRange (7, [some (vR (some (20, 0, a0))), some (vR (some (17, 0, a1))), some (vI x2), none, none], [vI z], (I1, S1)) r) : Ev (d + 1) mX5_readRange (0, [some (vR (some (20, 0, a0))), some (vR (some (17, 0, a1))), some (vI x2), none, none], [], (I, S)) r :=
  s_aload_n rfl rfl rfl <|
  s_iconst rfl rfl <|
  s_bipush rfl rfl <|
  s_csI rfl rfl rfl rfl rfl rfl c k
theorem b_X5_readRange_7 {d : Nat} {r : PO × PM} {I : Nat → Nat → Int} {S : PS} {a0 a1 : Nat} {x2 xs0 : Int} (kt : xs0 = 0 → Ev d mX5_readRange (14, [some (vR (some (20, 0, a0))), some (vR (some (17, 0, a1))), some (vI x2), some (vI xs0), none], [], (I, S)) r) (kf : xs0 ≠ 0 → Ev d mX5_readRange (12, [some (vR (some (20, 0, a0))), some (vR (some (17, 0, a1))), some (vI x2), some (vI xs0), none], [], (I, S)) r) : Ev d mX5_readRange (7, [some (vR (some (20, 0, a0))), some (vR (some (17, 0, a1))), some (vI x2), none, none], [vI xs0], (I, S)) r :=
  s_istore_n [some (vR (some (20, 0, a0))), some (vR (some (17, 0, a1))), some (vI x2), some (vI xs0), none] rfl rfl <|
  s_iload_n rfl rfl rfl <|
  s_if_eq 14 rfl rfl kt kf
theorem b_X5_readRange_12 {d : Nat} {I : Nat → Nat → Int} {S : PS} {a0 a1 : Nat} {x2 x3 : Int} : Ev d mX5_readRange (12, [some (vR (some (20, 0, a0))), some (vR (some (17, 0, a1))), some (vI x2), some (vI x3), none], [], (I, S)) (.inl (some (vI x3)), (I, S)) :=
  s_iload_n rfl rfl rfl <|
  s_ret rfl rfl
theorem b_X5_readRange_14 {d : Nat} {r : PO × PM} {I : Nat → Nat → Int} {S : PS} {a0 a1 : Nat} {x2 x3 : Int} {I1 : Nat → Nat → Int} {S1 : PS} (c : Ca d mX7_tell [vR (some (17, 0, a1)), vI x2, vI (I a0 5)] (I, S) (.inl none) (I1, S1)) (k : Ev (d + 1) mX5_readRange (27, [some (vR (some (20, 0, a0))), some (vR (some (17, 0, a1))), some (vI x2), some (vI x3), some (vI (I a0 5))], [], (I1, S1)) r) : Ev (d + 1) mX5_readRange (14, [some (vR (some (20, 0, a0))), some (vR (some (17, 0, a1))), some (vI x2), some (vI x3), none], [], (I, S)) r :=
  s_aload_n rfl rfl rfl <|
  s_getI rfl rfl rfl <|
  s_istore [some (vR (some (20, 0, a0))), some (vR (some (17, 0, a1))), some (vI x2), some (vI x3), some (vI (I a0 5))] rfl rfl <|
  s_aload_n rfl rfl rfl <|
  s_iload_n rfl rfl rfl <|
  s_iload rfl rfl rfl <|
  s_cvV rfl rfl rfl rfl rfl c k
theorem b_X5_readRange_27 {d : Nat} {r : PO × PM} {I : Nat → Nat → Int} {S : PS} {a0 a1 : Nat} {x2 x3 x4 z : Int} {I1 : Nat → Nat → Int} {S1 : PS} (c : Ca d mX5_readNumber [vR (some (20, 0, a0)), vI x4, vI 9] (I, S) (.inl (some (vI z))) (I1, S1)) (k : Ev (d + 1) mX5_readRange (35, [some (vR (some (20, 0, a0))), some (vR (some (17, 0, a1))), some (vI x2), some (vI x3), some (vI x4)], [vI z], (I1, S1)) r) : Ev (d + 1) mX5_readRange (27, [some (vR (some (20, 0, a0))), some (vR (some (17, 0, a1))), some (vI x2), some (vI x3), some (vI x4)], [], (I, S)) r :=
  s_aload_n rfl rfl rfl <|
  s_iload rfl rfl rfl <|
  s_bipush rfl rfl <|
  s_csI rfl rfl rfl rfl rfl rfl c k
theorem b_X5_readRange_35 {d : Nat} {r : PO × PM} {I : Nat → Nat → Int} {S : PS} {a0 a1 : Nat} {x2 x3 x4 xs0 : Int} {I1 : Nat → Nat → Int} {S1 : PS} (ho1 : -2147483648 ≤ x2 + 1 ∧ x2 + 1 ≤ 2147483647) (c : Ca d mX7_tell [vR (some (17, 0, a1)), vI (x2 + 1), vI (I a0 5)] (I, S) (.inl none) (I1, S1)) (k : Ev (d + 1) mX5_readRange (47, [some (vR (some (20, 0, a0))), some (vR (some (17, 0, a1))), some (vI x2), some (vI xs0), some (vI x4)], [], (I1, S1)) r) : Ev (d + 1) mX5_readRange (35, [some (vR (some (20, 0, a0))), some (vR (some (17, 0, a1))), some (vI x2), some (vI x3), some (vI x4)], [vI xs0], (I, S)) r :=
  s_istore_n [some (vR (some (20, 0, a0))), some (vR (some (17, 0, a1))), some (vI x2), some (vI xs0), some (vI x4)] rfl rfl <|
  s_aload_n rfl rfl rfl <|
  s_iload_n rfl rfl rfl <|
  s_iconst rfl rfl <|
  s_iaddp rfl ho1 <|
  s_aload_n rfl rfl rfl <|
  s_getI rfl rfl rfl <|
  s_cvV rfl rfl rfl rfl rfl c k
theorem b_X5_readRange_47 {d : Nat} {I : Nat → Nat → Int} {S : PS} {a0 a1 : Nat} {x2 x3 x4 : Int} : Ev d mX5_readRange (47, [some (vR (some (20, 0, a0))), some (vR (some (17, 0, a1))), some (vI x2), some (vI x3), some (vI x4)], [], (I, S)) (.inl (some (vI x3)), (I, S)) :=
  s_iload_n rfl rfl rfl <|
  s_ret rfl rfl
theorem b_X5_readSpot_0 {d : Nat} {r : PO × PM} {I : Nat → Nat → Int} {S : PS} {a0 a1 : Nat} (kt : I a1 6 < 12 → Ev d mX5_readSpot (11, [some (vR (some (20, 0, a0))), some (vR (some (11, 0, a1))), none, none], [], (I, S)) r) (kf : 12 ≤ I a1 6 → Ev d mX5_readSpot (9, [some (vR (some (20, 0, a0))), some (vR (some (11, 0, a1))), none, none], [], (I, S)) r) : Ev d mX5_readSpot (0, [some (vR (some (20, 0, a0))), some (vR (some (11, 0, a1))), none, none], [], (I, S)) r :=
  s_aload_n rfl rfl rfl <|
  s_getI rfl rfl rfl <|
  s_bipush rfl rfl <|
  s_icmp_lt 11 rfl rfl kt kf
theorem b_X5_readSpot_9 {d : Nat} {I : Nat → Nat → Int} {S : PS} {a0 a1 : Nat} : Ev d mX5_readSpot (9, [some (vR (some (20, 0, a0))), some (vR (some (11, 0, a1))), none, none], [], (I, S)) (.inl (some (vI 2)), (I, S)) :=
  s_iconst rfl rfl <|
  s_ret rfl rfl
theorem b_X5_readSpot_11 {d : Nat} {r : PO × PM} {I : Nat → Nat → Int} {S : PS} {a0 a1 : Nat} {I1 : Nat → Nat → Int} {S1 : PS} (c : Ca d mX0_beginSpot [vR (some (11, 0, a1))] (I, S) (.inl none) (I1, S1)) (k : Ev (d + 1) mX5_readSpot (15, [some (vR (some (20, 0, a0))), some (vR (some (11, 0, a1))), none, none], [], (I1, S1)) r) : Ev (d + 1) mX5_readSpot (11, [some (vR (some (20, 0, a0))), some (vR (some (11, 0, a1))), none, none], [], (I, S)) r :=
  s_aload_n rfl rfl rfl <|
  s_cvV rfl rfl rfl rfl rfl c k
theorem b_X5_readSpot_15 {d : Nat} {r : PO × PM} {I : Nat → Nat → Int} {S : PS} {a0 a1 : Nat} (k : Ev d mX5_readSpot (17, [some (vR (some (20, 0, a0))), some (vR (some (11, 0, a1))), some (vI 0), none], [], (I, S)) r) : Ev d mX5_readSpot (15, [some (vR (some (20, 0, a0))), some (vR (some (11, 0, a1))), none, none], [], (I, S)) r :=
  s_iconst rfl rfl <|
  s_istore_n [some (vR (some (20, 0, a0))), some (vR (some (11, 0, a1))), some (vI 0), none] rfl rfl <|
  k
theorem b_X5_readSpot_17 {d : Nat} {r : PO × PM} {I : Nat → Nat → Int} {S : PS} {a0 a1 : Nat} {x2 : Int} (kt : 9 < x2 → Ev d mX5_readSpot (94, [some (vR (some (20, 0, a0))), some (vR (some (11, 0, a1))), some (vI x2), none], [], (I, S)) r) (kf : x2 ≤ 9 → Ev d mX5_readSpot (23, [some (vR (some (20, 0, a0))), some (vR (some (11, 0, a1))), some (vI x2), none], [], (I, S)) r) : Ev d mX5_readSpot (17, [some (vR (some (20, 0, a0))), some (vR (some (11, 0, a1))), some (vI x2), none], [], (I, S)) r :=
  s_iload_n rfl rfl rfl <|
  s_bipush rfl rfl <|
  s_icmp_gt 94 rfl rfl kt kf
theorem b_X5_readSpot_23 {d : Nat} {r : PO × PM} {I : Nat → Nat → Int} {S : PS} {a0 a1 : Nat} {x2 : Int} {I1 : Nat → Nat → Int} {S1 : PS} (c : Ca d mX10_advance [vR (some (20, 0, a0))] (I, S) (.inl none) (I1, S1)) (k : Ev (d + 1) mX5_readSpot (27, [some (vR (some (20, 0, a0))), some (vR (some (11, 0, a1))), some (vI x2), none], [], (I1, S1)) r) : Ev (d + 1) mX5_readSpot (23, [some (vR (some (20, 0, a0))), some (vR (some (11, 0, a1))), some (vI x2), none], [], (I, S)) r :=
  s_aload_n rfl rfl rfl <|
  s_cvV rfl rfl rfl rfl rfl c k
theorem b_X5_readSpot_27 {d : Nat} {r : PO × PM} {I : Nat → Nat → Int} {S : PS} {a0 a1 : Nat} {x2 : Int} (kt : I a0 3 ≠ 3 → Ev d mX5_readSpot (53, [some (vR (some (20, 0, a0))), some (vR (some (11, 0, a1))), some (vI x2), none], [], (I, S)) r) (kf : I a0 3 = 3 → Ev d mX5_readSpot (35, [some (vR (some (20, 0, a0))), some (vR (some (11, 0, a1))), some (vI x2), none], [], (I, S)) r) : Ev d mX5_readSpot (27, [some (vR (some (20, 0, a0))), some (vR (some (11, 0, a1))), some (vI x2), none], [], (I, S)) r :=
  s_aload_n rfl rfl rfl <|
  s_getI rfl rfl rfl <|
  s_iconst rfl rfl <|
  s_icmp_ne 53 rfl rfl kt kf
theorem b_X5_readSpot_35 {d : Nat} {r : PO × PM} {I : Nat → Nat → Int} {S : PS} {a0 a1 : Nat} {x2 : Int} (kt : x2 ≤ 0 → Ev d mX5_readSpot (53, [some (vR (some (20, 0, a0))), some (vR (some (11, 0, a1))), some (vI x2), none], [], (I, S)) r) (kf : 0 < x2 → Ev d mX5_readSpot (39, [some (vR (some (20, 0, a0))), some (vR (some (11, 0, a1))), some (vI x2), none], [], (I, S)) r) : Ev d mX5_readSpot (35, [some (vR (some (20, 0, a0))), some (vR (some (11, 0, a1))), some (vI x2), none], [], (I, S)) r :=
  s_iload_n rfl rfl rfl <|
  s_if_le 53 rfl rfl kt kf
theorem b_X5_readSpot_39 {d : Nat} {r : PO × PM} {I : Nat → Nat → Int} {S : PS} {a0 a1 : Nat} {x2 : Int} (kt : 3 ≤ x2 → Ev d mX5_readSpot (48, [some (vR (some (20, 0, a0))), some (vR (some (11, 0, a1))), some (vI x2), none], [], (I, S)) r) (kf : x2 < 3 → Ev d mX5_readSpot (44, [some (vR (some (20, 0, a0))), some (vR (some (11, 0, a1))), some (vI x2), none], [], (I, S)) r) : Ev d mX5_readSpot (39, [some (vR (some (20, 0, a0))), some (vR (some (11, 0, a1))), some (vI x2), none], [], (I, S)) r :=
  s_iload_n rfl rfl rfl <|
  s_iconst rfl rfl <|
  s_icmp_ge 48 rfl rfl kt kf
theorem b_X5_readSpot_44 {d : Nat} {r : PO × PM} {I : Nat → Nat → Int} {S : PS} {a0 a1 : Nat} {x2 : Int} (k : Ev d mX5_readSpot (52, [some (vR (some (20, 0, a0))), some (vR (some (11, 0, a1))), some (vI x2), none], [vI 2], (I, S)) r) : Ev d mX5_readSpot (44, [some (vR (some (20, 0, a0))), some (vR (some (11, 0, a1))), some (vI x2), none], [], (I, S)) r :=
  s_iconst rfl rfl <|
  s_goto 52 rfl rfl k
theorem b_X5_readSpot_48 {d : Nat} {r : PO × PM} {I : Nat → Nat → Int} {S : PS} {a0 a1 : Nat} {x2 z : Int} {I1 : Nat → Nat → Int} {S1 : PS} (c : Ca d mX0_keepSpot [vR (some (11, 0, a1))] (I, S) (.inl (some (vI z))) (I1, S1)) (k : Ev (d + 1) mX5_readSpot (52, [some (vR (some (20, 0, a0))), some (vR (some (11, 0, a1))), some (vI x2), none], [vI z], (I1, S1)) r) : Ev (d + 1) mX5_readSpot (48, [some (vR (some (20, 0, a0))), some (vR (some (11, 0, a1))), some (vI x2), none], [], (I, S)) r :=
  s_aload_n rfl rfl rfl <|
  s_cvI rfl rfl rfl rfl rfl c k
theorem b_X5_readSpot_52 {d : Nat} {I : Nat → Nat → Int} {S : PS} {a0 a1 : Nat} {x2 xs0 : Int} : Ev d mX5_readSpot (52, [some (vR (some (20, 0, a0))), some (vR (some (11, 0, a1))), some (vI x2), none], [vI xs0], (I, S)) (.inl (some (vI xs0)), (I, S)) :=
  s_ret rfl rfl
theorem b_X5_readSpot_53 {d : Nat} {r : PO × PM} {I : Nat → Nat → Int} {S : PS} {a0 a1 : Nat} {x2 z : Int} {I1 : Nat → Nat → Int} {S1 : PS} (c : Ca d mX5_checkNumber [vR (some (20, 0, a0)), vI 0, vI 11] (I, S) (.inl (some (vI z))) (I1, S1)) (k : Ev (d + 1) mX5_readSpot (60, [some (vR (some (20, 0, a0))), some (vR (some (11, 0, a1))), some (vI x2), none], [vI z], (I1, S1)) r) : Ev (d + 1) mX5_readSpot (53, [some (vR (some (20, 0, a0))), some (vR (some (11, 0, a1))), some (vI x2), none], [], (I, S)) r :=
  s_aload_n rfl rfl rfl <|
  s_iconst rfl rfl <|
  s_bipush rfl rfl <|
  s_csI rfl rfl rfl rfl rfl rfl c k
theorem b_X5_readSpot_60 {d : Nat} {r : PO × PM} {I : Nat → Nat → Int} {S : PS} {a0 a1 : Nat} {x2 xs0 : Int} (kt : xs0 = 0 → Ev d mX5_readSpot (67, [some (vR (some (20, 0, a0))), some (vR (some (11, 0, a1))), some (vI x2), some (vI xs0)], [], (I, S)) r) (kf : xs0 ≠ 0 → Ev d mX5_readSpot (65, [some (vR (some (20, 0, a0))), some (vR (some (11, 0, a1))), some (vI x2), some (vI xs0)], [], (I, S)) r) : Ev d mX5_readSpot (60, [some (vR (some (20, 0, a0))), some (vR (some (11, 0, a1))), some (vI x2), none], [vI xs0], (I, S)) r :=
  s_istore_n [some (vR (some (20, 0, a0))), some (vR (some (11, 0, a1))), some (vI x2), some (vI xs0)] rfl rfl <|
  s_iload_n rfl rfl rfl <|
  s_if_eq 67 rfl rfl kt kf
theorem b_X5_readSpot_65 {d : Nat} {I : Nat → Nat → Int} {S : PS} {a0 a1 : Nat} {x2 x3 : Int} : Ev d mX5_readSpot (65, [some (vR (some (20, 0, a0))), some (vR (some (11, 0, a1))), some (vI x2), some (vI x3)], [], (I, S)) (.inl (some (vI x3)), (I, S)) :=
  s_iload_n rfl rfl rfl <|
  s_ret rfl rfl
theorem b_X5_readSpot_67 {d : Nat} {r : PO × PM} {I : Nat → Nat → Int} {S : PS} {a0 a1 : Nat} {x2 x3 : Int} (kt : x2 < 9 → Ev d mX5_readSpot (75, [some (vR (some (20, 0, a0))), some (vR (some (11, 0, a1))), some (vI x2), some (vI x3)], [], (I, S)) r) (kf : 9 ≤ x2 → Ev d mX5_readSpot (73, [some (vR (some (20, 0, a0))), some (vR (some (11, 0, a1))), some (vI x2), some (vI x3)], [], (I, S)) r) : Ev d mX5_readSpot (67, [some (vR (some (20, 0, a0))), some (vR (some (11, 0, a1))), some (vI x2), some (vI x3)], [], (I, S)) r :=
  s_iload_n rfl rfl rfl <|
  s_bipush rfl rfl <|
  s_icmp_lt 75 rfl rfl kt kf
theorem b_X5_readSpot_73 {d : Nat} {I : Nat → Nat → Int} {S : PS} {a0 a1 : Nat} {x2 x3 : Int} : Ev d mX5_readSpot (73, [some (vR (some (20, 0, a0))), some (vR (some (11, 0, a1))), some (vI x2), some (vI x3)], [], (I, S)) (.inl (some (vI 2)), (I, S)) :=
  s_iconst rfl rfl <|
  s_ret rfl rfl
theorem b_X5_readSpot_75 {d : Nat} {r : PO × PM} {I : Nat → Nat → Int} {S : PS} {a0 a1 : Nat} {x2 x3 z : Int} {I1 : Nat → Nat → Int} {S1 : PS} (c : Ca d mX0_addNeighbour [vR (some (11, 0, a1)), vI (I a0 5)] (I, S) (.inl (some (vI z))) (I1, S1)) (k : Ev (d + 1) mX5_readSpot (83, [some (vR (some (20, 0, a0))), some (vR (some (11, 0, a1))), some (vI x2), some (vI x3)], [vI z], (I1, S1)) r) : Ev (d + 1) mX5_readSpot (75, [some (vR (some (20, 0, a0))), some (vR (some (11, 0, a1))), some (vI x2), some (vI x3)], [], (I, S)) r :=
  s_aload_n rfl rfl rfl <|
  s_aload_n rfl rfl rfl <|
  s_getI rfl rfl rfl <|
  s_cvI rfl rfl rfl rfl rfl c k
theorem b_X5_readSpot_83 {d : Nat} {r : PO × PM} {I : Nat → Nat → Int} {S : PS} {a0 a1 : Nat} {x2 x3 xs0 : Int} (kt : xs0 ≠ 0 → Ev d mX5_readSpot (88, [some (vR (some (20, 0, a0))), some (vR (some (11, 0, a1))), some (vI x2), some (vI x3)], [], (I, S)) r) (kf : xs0 = 0 → Ev d mX5_readSpot (86, [some (vR (some (20, 0, a0))), some (vR (some (11, 0, a1))), some (vI x2), some (vI x3)], [], (I, S)) r) : Ev d mX5_readSpot (83, [some (vR (some (20, 0, a0))), some (vR (some (11, 0, a1))), some (vI x2), some (vI x3)], [vI xs0], (I, S)) r :=
  s_if_ne 88 rfl rfl kt kf
theorem b_X5_readSpot_86 {d : Nat} {I : Nat → Nat → Int} {S : PS} {a0 a1 : Nat} {x2 x3 : Int} : Ev d mX5_readSpot (86, [some (vR (some (20, 0, a0))), some (vR (some (11, 0, a1))), some (vI x2), some (vI x3)], [], (I, S)) (.inl (some (vI 4)), (I, S)) :=
  s_iconst rfl rfl <|
  s_ret rfl rfl
theorem b_X5_readSpot_88 {d : Nat} {r : PO × PM} {I : Nat → Nat → Int} {S : PS} {a0 a1 : Nat} {x2 x3 : Int} (ho1 : -2147483648 ≤ x2 + 1 ∧ x2 + 1 ≤ 2147483647) (k : Ev d mX5_readSpot (17, [some (vR (some (20, 0, a0))), some (vR (some (11, 0, a1))), some (vI (x2 + 1)), none], [], (I, S)) r) : Ev d mX5_readSpot (88, [some (vR (some (20, 0, a0))), some (vR (some (11, 0, a1))), some (vI x2), some (vI x3)], [], (I, S)) r :=
  s_iincp [some (vR (some (20, 0, a0))), some (vR (some (11, 0, a1))), some (vI (x2 + 1)), some (vI x3)] rfl rfl ho1 rfl <|
  s_goto 17 rfl rfl (ev_forget [false, false, false, true] rfl k)
theorem b_X5_readSpot_94 {d : Nat} {I : Nat → Nat → Int} {S : PS} {a0 a1 : Nat} {x2 : Int} : Ev d mX5_readSpot (94, [some (vR (some (20, 0, a0))), some (vR (some (11, 0, a1))), some (vI x2), none], [], (I, S)) (.inl (some (vI 2)), (I, S)) :=
  s_iconst rfl rfl <|
  s_ret rfl rfl
theorem b_X5_readNumber_0 {d : Nat} {r : PO × PM} {I : Nat → Nat → Int} {S : PS} {a0 : Nat} {x1 x2 : Int} {I1 : Nat → Nat → Int} {S1 : PS} (c : Ca d mX10_advance [vR (some (20, 0, a0))] (I, S) (.inl none) (I1, S1)) (k : Ev (d + 1) mX5_readNumber (4, [some (vR (some (20, 0, a0))), some (vI x1), some (vI x2)], [], (I1, S1)) r) : Ev (d + 1) mX5_readNumber (0, [some (vR (some (20, 0, a0))), some (vI x1), some (vI x2)], [], (I, S)) r :=
  s_aload_n rfl rfl rfl <|
  s_cvV rfl rfl rfl rfl rfl c k
theorem b_X5_readNumber_4 {d : Nat} {r : PO × PM} {I : Nat → Nat → Int} {S : PS} {a0 : Nat} {x1 x2 z : Int} {I1 : Nat → Nat → Int} {S1 : PS} (c : Ca d mX5_checkNumber [vR (some (20, 0, a0)), vI x1, vI x2] (I, S) (.inl (some (vI z))) (I1, S1)) (k : Ev (d + 1) mX5_readNumber (10, [some (vR (some (20, 0, a0))), some (vI x1), some (vI x2)], [vI z], (I1, S1)) r) : Ev (d + 1) mX5_readNumber (4, [some (vR (some (20, 0, a0))), some (vI x1), some (vI x2)], [], (I, S)) r :=
  s_aload_n rfl rfl rfl <|
  s_iload_n rfl rfl rfl <|
  s_iload_n rfl rfl rfl <|
  s_csI rfl rfl rfl rfl rfl rfl c k
theorem b_X5_readNumber_10 {d : Nat} {I : Nat → Nat → Int} {S : PS} {a0 : Nat} {x1 x2 xs0 : Int} : Ev d mX5_readNumber (10, [some (vR (some (20, 0, a0))), some (vI x1), some (vI x2)], [vI xs0], (I, S)) (.inl (some (vI xs0)), (I, S)) :=
  s_ret rfl rfl
theorem b_X5_checkNumber_0 {d : Nat} {r : PO × PM} {I : Nat → Nat → Int} {S : PS} {a0 : Nat} {x1 x2 : Int} (kt : I a0 3 = 2 → Ev d mX5_checkNumber (10, [some (vR (some (20, 0, a0))), some (vI x1), some (vI x2)], [], (I, S)) r) (kf : I a0 3 ≠ 2 → Ev d mX5_checkNumber (8, [some (vR (some (20, 0, a0))), some (vI x1), some (vI x2)], [], (I, S)) r) : Ev d mX5_checkNumber (0, [some (vR (some (20, 0, a0))), some (vI x1), some (vI x2)], [], (I, S)) r :=
  s_aload_n rfl rfl rfl <|
  s_getI rfl rfl rfl <|
  s_iconst rfl rfl <|
  s_icmp_eq 10 rfl rfl kt kf
theorem b_X5_checkNumber_8 {d : Nat} {I : Nat → Nat → Int} {S : PS} {a0 : Nat} {x1 x2 : Int} : Ev d mX5_checkNumber (8, [some (vR (some (20, 0, a0))), some (vI x1), some (vI x2)], [], (I, S)) (.inl (some (vI 1)), (I, S)) :=
  s_iconst rfl rfl <|
  s_ret rfl rfl
theorem b_X5_checkNumber_10 {d : Nat} {r : PO × PM} {I : Nat → Nat → Int} {S : PS} {a0 : Nat} {x1 x2 : Int} (kt : I a0 5 < x1 → Ev d mX5_checkNumber (26, [some (vR (some (20, 0, a0))), some (vI x1), some (vI x2)], [], (I, S)) r) (kf : x1 ≤ I a0 5 → Ev d mX5_checkNumber (18, [some (vR (some (20, 0, a0))), some (vI x1), some (vI x2)], [], (I, S)) r) : Ev d mX5_checkNumber (10, [some (vR (some (20, 0, a0))), some (vI x1), some (vI x2)], [], (I, S)) r :=
  s_aload_n rfl rfl rfl <|
  s_getI rfl rfl rfl <|
  s_iload_n rfl rfl rfl <|
  s_icmp_lt 26 rfl rfl kt kf
theorem b_X5_checkNumber_18 {d : Nat} {r : PO × PM} {I : Nat → Nat → Int} {S : PS} {a0 : Nat} {x1 x2 : Int} (kt : I a0 5 ≤ x2 → Ev d mX5_checkNumber (30, [some (vR (some (20, 0, a0))), some (vI x1), some (vI x2)], [], (I, S)) r) (kf : x2 < I a0 5 → Ev d mX5_checkNumber (26, [some (vR (some (20, 0, a0))), some (vI x1), some (vI x2)], [], (I, S)) r) : Ev d mX5_checkNumber (18, [some (vR (some (20, 0, a0))), some (vI x1), some (vI x2)], [], (I, S)) r :=
  s_aload_n rfl rfl rfl <|
  s_getI rfl rfl rfl <|
  s_iload_n rfl rfl rfl <|
  s_icmp_le 30 rfl rfl kt kf
theorem b_X5_checkNumber_26 {d : Nat} {r : PO × PM} {I : Nat → Nat → Int} {S : PS} {a0 : Nat} {x1 x2 : Int} (k : Ev d mX5_checkNumber (31, [some (vR (some (20, 0, a0))), some (vI x1), some (vI x2)], [vI 2], (I, S)) r) : Ev d mX5_checkNumber (26, [some (vR (some (20, 0, a0))), some (vI x1), some (vI x2)], [], (I, S)) r :=
  s_iconst rfl rfl <|
  s_goto 31 rfl rfl k
theorem b_X5_checkNumber_30 {d : Nat} {r : PO × PM} {I : Nat → Nat → Int} {S : PS} {a0 : Nat} {x1 x2 : Int} (k : Ev d mX5_checkNumber (31, [some (vR (some (20, 0, a0))), some (vI x1), some (vI x2)], [vI 0], (I, S)) r) : Ev d mX5_checkNumber (30, [some (vR (some (20, 0, a0))), some (vI x1), some (vI x2)], [], (I, S)) r :=
  s_iconst rfl rfl <|
  k
theorem b_X5_checkNumber_31 {d : Nat} {I : Nat → Nat → Int} {S : PS} {a0 : Nat} {x1 x2 xs0 : Int} : Ev d mX5_checkNumber (31, [some (vR (some (20, 0, a0))), some (vI x1), some (vI x2)], [vI xs0], (I, S)) (.inl (some (vI xs0)), (I, S)) :=
  s_ret rfl rfl
theorem b_X6_init_0 {d : Nat} {r : PO × PM} {h : PM} {a0 : Nat} {x1 : Int} {h1 : PM} (c : Ca d mX6_grow [vR (some (16, 0, a0)), vI 1, vI 0, vI 1] (m_si (m_sr (m_new (m_sr (m_new (m_si h a0 1 0) 0 91 91) a0 2 (some (0, 91, (m_sz (m_si h a0 1 0))))) 0 7 7) a0 3 (some (0, 7, (m_sz (m_sr (m_new (m_si h a0 1 0) 0 91 91) a0 2 (some (0, 91, (m_sz (m_si h a0 1 0))))))))) a0 0 x1) (.inl none) h1) (k : Ev (d + 1) mX6_init (37, [some (vR (some (16, 0, a0))), some (vI x1), none, none], [], h1) r) : Ev (d + 1) mX6_init (0, [some (vR (some (16, 0, a0))), some (vI x1), none, none], [], h) r :=
  s_aload_n rfl rfl rfl <|
  s_obj rfl rfl rfl <|
  s_aload_n rfl rfl rfl <|
  s_iconst rfl rfl <|
  s_putI rfl rfl rfl <|
  s_aload_n rfl rfl rfl <|
  s_bipush rfl rfl <|
  s_newa (n := 91) rfl (Or.inl ⟨rfl, rfl⟩) (by decide) <|
  s_putR rfl rfl rfl <|
  s_aload_n rfl rfl rfl <|
  s_bipush rfl rfl <|
  s_newa (n := 7) rfl (Or.inl ⟨rfl, rfl⟩) (by decide) <|
  s_putR rfl rfl rfl <|
  s_aload_n rfl rfl rfl <|
  s_iload_n rfl rfl rfl <|
  s_putI rfl rfl rfl <|
  s_aload_n rfl rfl rfl <|
  s_iconst rfl rfl <|
  s_iconst rfl rfl <|
  s_iconst rfl rfl <|
  s_cvV rfl rfl rfl rfl rfl c k
theorem b_X6_init_66 {d : Nat} {r : PO × PM} {h : PM} {a0 : Nat} {x1 x2 : Int} (kt : h.1 a0 1 ≤ x2 → Ev d mX6_init (99, [some (vR (some (16, 0, a0))), some (vI x1), some (vI x2), none], [], h) r) (kf : x2 < h.1 a0 1 → Ev d mX6_init (74, [some (vR (some (16, 0, a0))), some (vI x1), some (vI x2), none], [], h) r) : Ev d mX6_init (66, [some (vR (some (16, 0, a0))), some (vI x1), some (vI x2), none], [], h) r :=
  s_iload_n rfl rfl rfl <|
  s_aload_n rfl rfl rfl <|
  s_getI rfl rfl rfl <|
  s_icmp_ge 99 rfl rfl kt kf
theorem b_X6_init_74 {d : Nat} {r : PO × PM} {h : PM} {a0 : Nat} {x1 x2 : Int} (k : Ev d mX6_init (76, [some (vR (some (16, 0, a0))), some (vI x1), some (vI x2), some (vI 0)], [], h) r) : Ev d mX6_init (74, [some (vR (some (16, 0, a0))), some (vI x1), some (vI x2), none], [], h) r :=
  s_iconst rfl rfl <|
  s_istore_n [some (vR (some (16, 0, a0))), some (vI x1), some (vI x2), some (vI 0)] rfl rfl <|
  k
theorem b_X6_init_76 {d : Nat} {r : PO × PM} {h : PM} {a0 : Nat} {x1 x2 x3 : Int} (kt : 3 ≤ x3 → Ev d mX6_init (93, [some (vR (some (16, 0, a0))), some (vI x1), some (vI x2), some (vI x3)], [], h) r) (kf : x3 < 3 → Ev d mX6_init (81, [some (vR (some (16, 0, a0))), some (vI x1), some (vI x2), some (vI x3)], [], h) r) : Ev d mX6_init (76, [some (vR (some (16, 0, a0))), some (vI x1), some (vI x2), some (vI x3)], [], h) r :=
  s_iload_n rfl rfl rfl <|
  s_iconst rfl rfl <|
  s_icmp_ge 93 rfl rfl kt kf
theorem b_X6_init_81 {d : Nat} {r : PO × PM} {h : PM} {a0 : Nat} {x1 x2 x3 : Int} {h1 : PM} (c : Ca d mX6_tabulate [vR (some (16, 0, a0)), vI x2, vI x3] h (.inl none) h1) (k : Ev (d + 1) mX6_init (87, [some (vR (some (16, 0, a0))), some (vI x1), some (vI x2), some (vI x3)], [], h1) r) : Ev (d + 1) mX6_init (81, [some (vR (some (16, 0, a0))), some (vI x1), some (vI x2), some (vI x3)], [], h) r :=
  s_aload_n rfl rfl rfl <|
  s_iload_n rfl rfl rfl <|
  s_iload_n rfl rfl rfl <|
  s_cvV rfl rfl rfl rfl rfl c k
theorem b_X6_init_87 {d : Nat} {r : PO × PM} {h : PM} {a0 : Nat} {x1 x2 x3 : Int} (ho1 : -2147483648 ≤ x3 + 1 ∧ x3 + 1 ≤ 2147483647) (k : Ev d mX6_init (76, [some (vR (some (16, 0, a0))), some (vI x1), some (vI x2), some (vI (x3 + 1))], [], h) r) : Ev d mX6_init (87, [some (vR (some (16, 0, a0))), some (vI x1), some (vI x2), some (vI x3)], [], h) r :=
  s_iincp [some (vR (some (16, 0, a0))), some (vI x1), some (vI x2), some (vI (x3 + 1))] rfl rfl ho1 rfl <|
  s_goto 76 rfl rfl k
theorem b_X6_init_93 {d : Nat} {r : PO × PM} {h : PM} {a0 : Nat} {x1 x2 x3 : Int} (ho1 : -2147483648 ≤ x2 + 1 ∧ x2 + 1 ≤ 2147483647) (k : Ev d mX6_init (66, [some (vR (some (16, 0, a0))), some (vI x1), some (vI (x2 + 1)), none], [], h) r) : Ev d mX6_init (93, [some (vR (some (16, 0, a0))), some (vI x1), some (vI x2), some (vI x3)], [], h) r :=
  s_iincp [some (vR (some (16, 0, a0))), some (vI x1), some (vI (x2 + 1)), some (vI x3)] rfl rfl ho1 rfl <|
  s_goto 66 rfl rfl (ev_forget [false, false, false, true] rfl k)
theorem b_X6_init_99 {d : Nat} {h : PM} {a0 : Nat} {x1 x2 : Int} : Ev d mX6_init (99, [some (vR (some (16, 0, a0))), some (vI x1), some (vI x2), none], [], h) (.inl none, h) :=
  s_vret rfl rfl
theorem b_X6_grow_0 {d : Nat} {r : PO × PM} {I : Nat → Nat → Int} {S : PS} {a0 : Nat} {x1 x2 x3 : Int} (kt : x1 < I a0 0 → Ev d mX6_grow (38, [some (vR (some (16, 0, a0))), some (vI x1), some (vI x2), some (vI x3), none, none], [], (I, S)) r) (kf : I a0 0 ≤ x1 → Ev d mX6_grow (8, [some (vR (some (16, 0, a0))), some (vI x1), some (vI x2), some (vI x3), none, none], [], (I, S)) r) : Ev d mX6_grow (0, [some (vR (some (16, 0, a0))), some (vI x1), some (vI x2), some (vI x3), none, none], [], (I, S)) r :=
  s_iload_n rfl rfl rfl <|
  s_aload_n rfl rfl rfl <|
  s_getI rfl rfl rfl <|
  s_icmp_lt 38 rfl rfl kt kf
theorem b_X6_grow_8 {d : Nat} {r : PO × PM} {I : Nat → Nat → Int} {S : PS} {a0 : Nat} {x1 x2 x3 : Int} (kt : 91 ≤ I a0 1 → Ev d mX6_grow (37, [some (vR (some (16, 0, a0))), some (vI x1), some (vI x2), some (vI x3), none, none], [], (I, S)) r) (kf : I a0 1 < 91 → Ev d mX6_grow (17, [some (vR (some (16, 0, a0))), some (vI x1), some (vI x2), some (vI x3), none, none], [], (I, S)) r) : Ev d mX6_grow (8, [some (vR (some (16, 0, a0))), some (vI x1), some (vI x2), some (vI x3), none, none], [], (I, S)) r :=
  s_aload_n rfl rfl rfl <|
  s_getI rfl rfl rfl <|
  s_bipush rfl rfl <|
  s_icmp_ge 37 rfl rfl kt kf
theorem b_X6_grow_17 {d : Nat} {r : PO × PM} {I : Nat → Nat → Int} {S : PS} {a0 p1 q1 : Nat} {x1 x2 x3 : Int} (hr1 : S.1 a0 2 = some (0, q1, p1)) (hi2 : 0 ≤ I a0 1 ∧ I a0 1 < (q1 : Nat)) (ho3 : -2147483648 ≤ ((up2 I p1 ((I a0 1).toNat) x2) a0 1) + 1 ∧ ((up2 I p1 ((I a0 1).toNat) x2) a0 1) + 1 ≤ 2147483647) (k : Ev d mX6_grow (37, [some (vR (some (16, 0, a0))), some (vI x1), some (vI x2), some (vI x3), none, none], [], ((up2 (up2 I p1 ((I a0 1).toNat) x2) a0 1 (((up2 I p1 ((I a0 1).toNat) x2) a0 1) + 1)), S)) r) : Ev d mX6_grow (17, [some (vR (some (16, 0, a0))), some (vI x1), some (vI x2), some (vI x3), none, none], [], (I, S)) r :=
  s_aload_n rfl rfl rfl <|
  s_getR rfl rfl rfl hr1 <|
  s_aload_n rfl rfl rfl <|
  s_getI rfl rfl rfl <|
  s_iload_n rfl rfl rfl <|
  s_iast rfl hi2 <|
  s_aload_n rfl rfl rfl <|
  s_dup rfl rfl <|
  s_getI rfl rfl rfl <|
  s_iconst rfl rfl <|
  s_iaddp rfl ho3 <|
  s_putI rfl rfl rfl <|
  k
theorem b_X6_grow_37 {d : Nat} {I : Nat → Nat → Int} {S : PS} {a0 : Nat} {x1 x2 x3 : Int} : Ev d mX6_grow (37, [some (vR (some (16, 0, a0))), some (vI x1), some (vI x2), some (vI x3), none, none], [], (I, S)) (.inl none, (I, S)) :=
  s_vret rfl rfl
theorem b_X6_grow_38 {d : Nat} {r : PO × PM} {I : Nat → Nat → Int} {S : PS} {a0 : Nat} {x1 x2 x3 : Int} (k : Ev d mX6_grow (41, [some (vR (some (16, 0, a0))), some (vI x1), some (vI x2), some (vI x3), some (vI 0), none], [], (I, S)) r) : Ev d mX6_grow (38, [some (vR (some (16, 0, a0))), some (vI x1), some (vI x2), some (vI x3), none, none], [], (I, S)) r :=
  s_iconst rfl rfl <|
  s_istore [some (vR (some (16, 0, a0))), some (vI x1), some (vI x2), some (vI x3), some (vI 0), none] rfl rfl <|
  k
theorem b_X6_grow_41 {d : Nat} {r : PO × PM} {I : Nat → Nat → Int} {S : PS} {a0 : Nat} {x1 x2 x3 x4 : Int} (kt : x3 < x4 → Ev d mX6_grow (120, [some (vR (some (16, 0, a0))), some (vI x1), some (vI x2), some (vI x3), some (vI x4), none], [], (I, S)) r) (kf : x4 ≤ x3 → Ev d mX6_grow (47, [some (vR (some (16, 0, a0))), some (vI x1), some (vI x2), some (vI x3), some (vI x4), none], [], (I, S)) r) : Ev d mX6_grow (41, [some (vR (some (16, 0, a0))), some (vI x1), some (vI x2), some (vI x3), some (vI x4), none], [], (I, S)) r :=
  s_iload rfl rfl rfl <|
  s_iload_n rfl rfl rfl <|
  s_icmp_gt 120 rfl rfl kt kf
theorem b_X6_grow_47 {d : Nat} {r : PO × PM} {I : Nat → Nat → Int} {S : PS} {a0 : Nat} {x1 x2 x3 x4 : Int} (kt : 4 ≤ x4 → Ev d mX6_grow (120, [some (vR (some (16, 0, a0))), some (vI x1), some (vI x2), some (vI x3), some (vI x4), none], [], (I, S)) r) (kf : x4 < 4 → Ev d mX6_grow (53, [some (vR (some (16, 0, a0))), some (vI x1), some (vI x2), some (vI x3), some (vI x4), none], [], (I, S)) r) : Ev d mX6_grow (47, [some (vR (some (16, 0, a0))), some (vI x1), some (vI x2), some (vI x3), some (vI x4), none], [], (I, S)) r :=
  s_iload rfl rfl rfl <|
  s_iconst rfl rfl <|
  s_icmp_ge 120 rfl rfl kt kf
theorem b_X6_grow_53 {d : Nat} {r : PO × PM} {I : Nat → Nat → Int} {S : PS} {a0 : Nat} {x1 x2 x3 x4 : Int} (ho1 : -2147483648 ≤ I a0 0 - 1 ∧ I a0 0 - 1 ≤ 2147483647) (kt : x1 ≠ I a0 0 - 1 → Ev d mX6_grow (72, [some (vR (some (16, 0, a0))), some (vI x1), some (vI x2), some (vI x3), some (vI x4), none], [], (I, S)) r) (kf : x1 = I a0 0 - 1 → Ev d mX6_grow (63, [some (vR (some (16, 0, a0))), some (vI x1), some (vI x2), some (vI x3), some (vI x4), none], [], (I, S)) r) : Ev d mX6_grow (53, [some (vR (some (16, 0, a0))), some (vI x1), some (vI x2), some (vI x3), some (vI x4), none], [], (I, S)) r :=
  s_iload_n rfl rfl rfl <|
  s_aload_n rfl rfl rfl <|
  s_getI rfl rfl rfl <|
  s_iconst rfl rfl <|
  s_isubp rfl ho1 <|
  s_icmp_ne 72 rfl rfl kt kf
theorem b_X6_grow_63 {d : Nat} {r : PO × PM} {I : Nat → Nat → Int} {S : PS} {a0 : Nat} {x1 x2 x3 x4 : Int} (kt : x4 ≠ 0 → Ev d mX6_grow (72, [some (vR (some (16, 0, a0))), some (vI x1), some (vI x2), some (vI x3), some (vI x4), none], [], (I, S)) r) (kf : x4 = 0 → Ev d mX6_grow (68, [some (vR (some (16, 0, a0))), some (vI x1), some (vI x2), some (vI x3), some (vI x4), none], [], (I, S)) r) : Ev d mX6_grow (63, [some (vR (some (16, 0, a0))), some (vI x1), some (vI x2), some (vI x3), some (vI x4), none], [], (I, S)) r :=
  s_iload rfl rfl rfl <|
  s_if_ne 72 rfl rfl kt kf
theorem b_X6_grow_68 {d : Nat} {r : PO × PM} {I : Nat → Nat → Int} {S : PS} {a0 : Nat} {x1 x2 x3 x4 : Int} (k : Ev d mX6_grow (73, [some (vR (some (16, 0, a0))), some (vI x1), some (vI x2), some (vI x3), some (vI x4), none], [vI 1], (I, S)) r) : Ev d mX6_grow (68, [some (vR (some (16, 0, a0))), some (vI x1), some (vI x2), some (vI x3), some (vI x4), none], [], (I, S)) r :=
  s_iconst rfl rfl <|
  s_goto 73 rfl rfl k
theorem b_X6_grow_72 {d : Nat} {r : PO × PM} {I : Nat → Nat → Int} {S : PS} {a0 : Nat} {x1 x2 x3 x4 : Int} (k : Ev d mX6_grow (73, [some (vR (some (16, 0, a0))), some (vI x1), some (vI x2), some (vI x3), some (vI x4), none], [vI 0], (I, S)) r) : Ev d mX6_grow (72, [some (vR (some (16, 0, a0))), some (vI x1), some (vI x2), some (vI x3), some (vI x4), none], [], (I, S)) r :=
  s_iconst rfl rfl <|
  k
theorem b_X6_grow_73 {d : Nat} {r : PO × PM} {I : Nat → Nat → Int} {S : PS} {a0 : Nat} {x1 x2 x3 x4 xs0 : Int} (kt : x4 = p_and x2 3 → Ev d mX6_grow (114, [some (vR (some (16, 0, a0))), some (vI x1), some (vI x2), some (vI x3), some (vI x4), some (vI xs0)], [], (I, S)) r) (kf : x4 ≠ p_and x2 3 → Ev d mX6_grow (83, [some (vR (some (16, 0, a0))), some (vI x1), some (vI x2), some (vI x3), some (vI x4), some (vI xs0)], [], (I, S)) r) : Ev d mX6_grow (73, [some (vR (some (16, 0, a0))), some (vI x1), some (vI x2), some (vI x3), some (vI x4), none], [vI xs0], (I, S)) r :=
  s_istore [some (vR (some (16, 0, a0))), some (vI x1), some (vI x2), some (vI x3), some (vI x4), some (vI xs0)] rfl rfl <|
  s_iload rfl rfl rfl <|
  s_iload_n rfl rfl rfl <|
  s_iconst rfl rfl <|
  s_iand rfl <|
  s_icmp_eq 114 rfl rfl kt kf
theorem b_X6_grow_83 {d : Nat} {r : PO × PM} {I : Nat → Nat → Int} {S : PS} {a0 : Nat} {x1 x2 x3 x4 x5 : Int} (kt : x5 ≠ 0 → Ev d mX6_grow (114, [some (vR (some (16, 0, a0))), some (vI x1), some (vI x2), some (vI x3), some (vI x4), some (vI x5)], [], (I, S)) r) (kf : x5 = 0 → Ev d mX6_grow (88, [some (vR (some (16, 0, a0))), some (vI x1), some (vI x2), some (vI x3), some (vI x4), some (vI x5)], [], (I, S)) r) : Ev d mX6_grow (83, [some (vR (some (16, 0, a0))), some (vI x1), some (vI x2), some (vI x3), some (vI x4), some (vI x5)], [], (I, S)) r :=
  s_iload rfl rfl rfl <|
  s_if_ne 114 rfl rfl kt kf
theorem b_X6_grow_88 {d : Nat} {r : PO × PM} {I : Nat → Nat → Int} {S : PS} {a0 : Nat} {x1 x2 x3 x4 x5 : Int} (ho1 : -2147483648 ≤ x1 + 1 ∧ x1 + 1 ≤ 2147483647) (kt : x4 ≠ x3 → Ev d mX6_grow (110, [some (vR (some (16, 0, a0))), some (vI x1), some (vI x2), some (vI x3), some (vI x4), some (vI x5)], [vI (p_or (p_shl x2 2) x4), vI (x1 + 1), vR (some (16, 0, a0))], (I, S)) r) (kf : x4 = x3 → Ev d mX6_grow (104, [some (vR (some (16, 0, a0))), some (vI x1), some (vI x2), some (vI x3), some (vI x4), some (vI x5)], [vI (p_or (p_shl x2 2) x4), vI (x1 + 1), vR (some (16, 0, a0))], (I, S)) r) : Ev d mX6_grow (88, [some (vR (some (16, 0, a0))), some (vI x1), some (vI x2), some (vI x3), some (vI x4), some (vI x5)], [], (I, S)) r :=
  s_aload_n rfl rfl rfl <|
  s_iload_n rfl rfl rfl <|
  s_iconst rfl rfl <|
  s_iaddp rfl ho1 <|
  s_iload_n rfl rfl rfl <|
  s_iconst rfl rfl <|
  s_ishl rfl <|
  s_iload rfl rfl rfl <|
  s_ior rfl <|
  s_iload rfl rfl rfl <|
  s_iload_n rfl rfl rfl <|
  s_icmp_ne 110 rfl rfl kt kf
theorem b_X6_grow_104 {d : Nat} {r : PO × PM} {I : Nat → Nat → Int} {S : PS} {a0 as0 : Nat} {x1 x2 x3 x4 x5 xs1 xs2 : Int} (ho1 : -2147483648 ≤ x3 + 1 ∧ x3 + 1 ≤ 2147483647) (k : Ev d mX6_grow (111, [some (vR (some (16, 0, a0))), some (vI x1), some (vI x2), some (vI x3), some (vI x4), some (vI x5)], [vI (x3 + 1), vI xs2, vI xs1, vR (some (16, 0, as0))], (I, S)) r) : Ev d mX6_grow (104, [some (vR (some (16, 0, a0))), some (vI x1), some (vI x2), some (vI x3), some (vI x4), some (vI x5)], [vI xs2, vI xs1, vR (some (16, 0, as0))], (I, S)) r :=
  s_iload_n rfl rfl rfl <|
  s_iconst rfl rfl <|
  s_iaddp rfl ho1 <|
  s_goto 111 rfl rfl k
theorem b_X6_grow_110 {d : Nat} {r : PO × PM} {I : Nat → Nat → Int} {S : PS} {a0 as0 : Nat} {x1 x2 x3 x4 x5 xs1 xs2 : Int} (k : Ev d mX6_grow (111, [some (vR (some (16, 0, a0))), some (vI x1), some (vI x2), some (vI x3), some (vI x4), some (vI x5)], [vI x3, vI xs2, vI xs1, vR (some (16, 0, as0))], (I, S)) r) : Ev d mX6_grow (110, [some (vR (some (16, 0, a0))), some (vI x1), some (vI x2), some (vI x3), some (vI x4), some (vI x5)], [vI xs2, vI xs1, vR (some (16, 0, as0))], (I, S)) r :=
  s_iload_n rfl rfl rfl <|
  k
theorem b_X6_grow_111 {d : Nat} {r : PO × PM} {I : Nat → Nat → Int} {S : PS} {a0 as0 : Nat} {x1 x2 x3 x4 x5 xs1 xs2 xs3 : Int} {I1 : Nat → Nat → Int} {S1 : PS} (c : Ca d mX6_grow [vR (some (16, 0, as0)), vI xs1, vI xs2, vI xs3] (I, S) (.inl none) (I1, S1)) (k : Ev (d + 1) mX6_grow (114, [some (vR (some (16, 0, a0))), some (vI x1), some (vI x2), some (vI x3), some (vI x4), some (vI x5)], [], (I1, S1)) r) : Ev (d + 1) mX6_grow (111, [some (vR (some (16, 0, a0))), some (vI x1), some (vI x2), some (vI x3), some (vI x4), some (vI x5)], [vI xs3, vI xs2, vI xs1, vR (some (16, 0, as0))], (I, S)) r :=
  s_cvV rfl rfl rfl rfl rfl c k
theorem b_X6_grow_114 {d : Nat} {r : PO × PM} {I : Nat → Nat → Int} {S : PS} {a0 : Nat} {x1 x2 x3 x4 x5 : Int} (ho1 : -2147483648 ≤ x4 + 1 ∧ x4 + 1 ≤ 2147483647) (k : Ev d mX6_grow (41, [some (vR (some (16, 0, a0))), some (vI x1), some (vI x2), some (vI x3), some (vI (x4 + 1)), none], [], (I, S)) r) : Ev d mX6_grow (114, [some (vR (some (16, 0, a0))), some (vI x1), some (vI x2), some (vI x3), some (vI x4), some (vI x5)], [], (I, S)) r :=
  s_iincp [some (vR (some (16, 0, a0))), some (vI x1), some (vI x2), some (vI x3), some (vI (x4 + 1)), some (vI x5)] rfl rfl ho1 rfl <|
  s_goto 41 rfl rfl (ev_forget [false, false, false, false, false, true] rfl k)
theorem b_X6_grow_120 {d : Nat} {I : Nat → Nat → Int} {S : PS} {a0 : Nat} {x1 x2 x3 x4 : Int} : Ev d mX6_grow (120, [some (vR (some (16, 0, a0))), some (vI x1), some (vI x2), some (vI x3), some (vI x4), none], [], (I, S)) (.inl none, (I, S)) :=
  s_vret rfl rfl
theorem b_X6_tabulate_0 {d : Nat} {r : PO × PM} {I : Nat → Nat → Int} {S : PS} {a0 p1 q1 : Nat} {x1 x2 z : Int} {I1 : Nat → Nat → Int} {S1 : PS} (hr1 : S.1 a0 2 = some (0, q1, p1)) (hi2 : 0 ≤ x1 ∧ x1 < (q1 : Nat)) (c : Ca d mX6_split [vR (some (16, 0, a0)), vI (I p1 x1.toNat), vI x2] (I, S) (.inl (some (vI z))) (I1, S1)) (k : Ev (d + 1) mX6_tabulate (11, [some (vR (some (16, 0, a0))), some (vI x1), some (vI x2), none, none, none, none], [vI z], (I1, S1)) r) : Ev (d + 1) mX6_tabulate (0, [some (vR (some (16, 0, a0))), some (vI x1), some (vI x2), none, none, none, none], [], (I, S)) r :=
  s_aload_n rfl rfl rfl <|
  s_aload_n rfl rfl rfl <|
  s_getR rfl rfl rfl hr1 <|
  s_iload_n rfl rfl rfl <|
  s_iald rfl rfl hi2 <|
  s_iload_n rfl rfl rfl <|
  s_cvI rfl rfl rfl rfl rfl c k
theorem b_X6_tabulate_11 {d : Nat} {r : PO × PM} {I : Nat → Nat → Int} {S : PS} {a0 p3 q3 : Nat} {x1 x2 xs0 : Int} (ho1 : -2147483648 ≤ x1 * 3 ∧ x1 * 3 ≤ 2147483647) (ho2 : -2147483648 ≤ (x1 * 3) + x2 ∧ (x1 * 3) + x2 ≤ 2147483647) (hr3 : S.1 a0 4 = some (1, q3, p3)) (hi4 : 0 ≤ (x1 * 3) + x2 ∧ (x1 * 3) + x2 < (q3 : Nat)) (kt : xs0 ≤ 2 → Ev d mX6_tabulate (41, [some (vR (some (16, 0, a0))), some (vI x1), some (vI x2), some (vI xs0), some (vI ((x1 * 3) + x2)), none, none], [], ((up2 I p3 (((x1 * 3) + x2).toNat) (p_i2b (p_i2b xs0))), S)) r) (kf : 2 < xs0 → Ev d mX6_tabulate (33, [some (vR (some (16, 0, a0))), some (vI x1), some (vI x2), some (vI xs0), some (vI ((x1 * 3) + x2)), none, none], [], ((up2 I p3 (((x1 * 3) + x2).toNat) (p_i2b (p_i2b xs0))), S)) r) : Ev d mX6_tabulate (11, [some (vR (some (16, 0, a0))), some (vI x1), some (vI x2), none, none, none, none], [vI xs0], (I, S)) r :=
  s_istore_n [some (vR (some (16, 0, a0))), some (vI x1), some (vI x2), some (vI xs0), none, none, none] rfl rfl <|
  s_iload_n rfl rfl rfl <|
  s_iconst rfl rfl <|
  s_imulp rfl ho1 <|
  s_iload_n rfl rfl rfl <|
  s_iaddp rfl ho2 <|
  s_istore [some (vR (some (16, 0, a0))), some (vI x1), some (vI x2), some (vI xs0), some (vI ((x1 * 3) + x2)), none, none] rfl rfl <|
  s_aload_n rfl rfl rfl <|
  s_getR rfl rfl rfl hr3 <|
  s_iload rfl rfl rfl <|
  s_iload_n rfl rfl rfl <|
  s_i2b rfl <|
  s_bast rfl hi4 <|
  s_iload_n rfl rfl rfl <|
  s_iconst rfl rfl <|
  s_icmp_le 41 rfl rfl kt kf
theorem b_X6_tabulate_33 {d : Nat} {r : PO × PM} {I : Nat → Nat → Int} {S : PS} {a0 : Nat} {x1 x2 x3 x4 : Int} (ho1 : -2147483648 ≤ x3 - 2 ∧ x3 - 2 ≤ 2147483647) (k : Ev d mX6_tabulate (42, [some (vR (some (16, 0, a0))), some (vI x1), some (vI x2), some (vI x3), some (vI x4), none, none], [vI (p_shl 1 (x3 - 2))], (I, S)) r) : Ev d mX6_tabulate (33, [some (vR (some (16, 0, a0))), some (vI x1), some (vI x2), some (vI x3), some (vI x4), none, none], [], (I, S)) r :=
  s_iconst rfl rfl <|
  s_iload_n rfl rfl rfl <|
  s_iconst rfl rfl <|
  s_isubp rfl ho1 <|
  s_ishl rfl <|
  s_goto 42 rfl rfl k
theorem b_X6_tabulate_41 {d : Nat} {r : PO × PM} {I : Nat → Nat → Int} {S : PS} {a0 : Nat} {x1 x2 x3 x4 : Int} (k : Ev d mX6_tabulate (42, [some (vR (some (16, 0, a0))), some (vI x1), some (vI x2), some (vI x3), some (vI x4), none, none], [vI 1], (I, S)) r) : Ev d mX6_tabulate (41, [some (vR (some (16, 0, a0))), some (vI x1), some (vI x2), some (vI x3), some (vI x4), none, none], [], (I, S)) r :=
  s_iconst rfl rfl <|
  k
theorem b_X6_tabulate_42 {d : Nat} {r : PO × PM} {I : Nat → Nat → Int} {S : PS} {a0 : Nat} {x1 x2 x3 x4 xs0 : Int} (k : Ev d mX6_tabulate (47, [some (vR (some (16, 0, a0))), some (vI x1), some (vI x2), some (vI x3), some (vI x4), some (vI xs0), some (vI 0)], [], (I, S)) r) : Ev d mX6_tabulate (42, [some (vR (some (16, 0, a0))), some (vI x1), some (vI x2), some (vI x3), some (vI x4), none, none], [vI xs0], (I, S)) r :=
  s_istore [some (vR (some (16, 0, a0))), some (vI x1), some (vI x2), some (vI x3), some (vI x4), some (vI xs0), none] rfl rfl <|
  s_iconst rfl rfl <|
  s_istore [some (vR (some (16, 0, a0))), some (vI x1), some (vI x2), some (vI x3), some (vI x4), some (vI xs0), some (vI 0)] rfl rfl <|
  k
theorem b_X6_tabulate_47 {d : Nat} {r : PO × PM} {I : Nat → Nat → Int} {S : PS} {a0 : Nat} {x1 x2 x3 x4 x5 x6 : Int} (kt : x5 ≤ x6 → Ev d mX6_tabulate (104, [some (vR (some (16, 0, a0))), some (vI x1), some (vI x2), some (vI x3), some (vI x4), some (vI x5), some (vI x6)], [], (I, S)) r) (kf : x6 < x5 → Ev d mX6_tabulate (54, [some (vR (some (16, 0, a0))), some (vI x1), some (vI x2), some (vI x3), some (vI x4), some (vI x5), some (vI x6)], [], (I, S)) r) : Ev d mX6_tabulate (47, [some (vR (some (16, 0, a0))), some (vI x1), some (vI x2), some (vI x3), some (vI x4), some (vI x5), some (vI x6)], [], (I, S)) r :=
  s_iload rfl rfl rfl <|
  s_iload rfl rfl rfl <|
  s_icmp_ge 104 rfl rfl kt kf
theorem b_X6_tabulate_54 {d : Nat} {r : PO × PM} {I : Nat → Nat → Int} {S : PS} {a0 : Nat} {x1 x2 x3 x4 x5 x6 : Int} (kt : 16 ≤ x6 → Ev d mX6_tabulate (104, [some (vR (some (16, 0, a0))), some (vI x1), some (vI x2), some (vI x3), some (vI x4), some (vI x5), some (vI x6)], [], (I, S)) r) (kf : x6 < 16 → Ev d mX6_tabulate (61, [some (vR (some (16, 0, a0))), some (vI x1), some (vI x2), some (vI x3), some (vI x4), some (vI x5), some (vI x6)], [], (I, S)) r) : Ev d mX6_tabulate (54, [some (vR (some (16, 0, a0))), some (vI x1), some (vI x2), some (vI x3), some (vI x4), some (vI x5), some (vI x6)], [], (I, S)) r :=
  s_iload rfl rfl rfl <|
  s_bipush rfl rfl <|
  s_icmp_ge 104 rfl rfl kt kf
theorem b_X6_tabulate_61 {d : Nat} {r : PO × PM} {I : Nat → Nat → Int} {S : PS} {a0 p1 q1 p4 q4 : Nat} {x1 x2 x3 x4 x5 x6 z : Int} {I1 : Nat → Nat → Int} {S1 : PS} (hr1 : S.1 a0 5 = some (1, q1, p1)) (ho2 : -2147483648 ≤ x4 * 16 ∧ x4 * 16 ≤ 2147483647) (ho3 : -2147483648 ≤ (x4 * 16) + x6 ∧ (x4 * 16) + x6 ≤ 2147483647) (hr4 : S.1 a0 2 = some (0, q4, p4)) (hi5 : 0 ≤ x1 ∧ x1 < (q4 : Nat)) (c : Ca d mX6_turned [vR (some (16, 0, a0)), vI (I p4 x1.toNat), vI x2, vI (p_shl x6 2)] (I, S) (.inl (some (vI z))) (I1, S1)) (k : Ev (d + 1) mX6_tabulate (90, [some (vR (some (16, 0, a0))), some (vI x1), some (vI x2), some (vI x3), some (vI x4), some (vI x5), some (vI x6)], [vI z, vR (some (16, 0, a0)), vR (some (16, 0, a0)), vI ((x4 * 16) + x6), vR (some (1, q1, p1))], (I1, S1)) r) : Ev (d + 1) mX6_tabulate (61, [some (vR (some (16, 0, a0))), some (vI x1), some (vI x2), some (vI x3), some (vI x4), some (vI x5), some (vI x6)], [], (I, S)) r :=
  s_aload_n rfl rfl rfl <|
  s_getR rfl rfl rfl hr1 <|
  s_iload rfl rfl rfl <|
  s_bipush rfl rfl <|
  s_imulp rfl ho2 <|
  s_iload rfl rfl rfl <|
  s_iaddp rfl ho3 <|
  s_aload_n rfl rfl rfl <|
  s_aload_n rfl rfl rfl <|
  s_aload_n rfl rfl rfl <|
  s_aload_n rfl rfl rfl <|
  s_getR rfl rfl rfl hr4 <|
  s_iload_n rfl rfl rfl <|
  s_iald rfl rfl hi5 <|
  s_iload_n rfl rfl rfl <|
  s_iload rfl rfl rfl <|
  s_iconst rfl rfl <|
  s_ishl rfl <|
  s_cvI rfl rfl rfl rfl rfl c k
theorem b_X6_tabulate_90 {d : Nat} {r : PO × PM} {I : Nat → Nat → Int} {S : PS} {a0 ns0 as0 as2 as3 : Nat} {x1 x2 x3 x4 x5 x6 xs1 xs4 z : Int} {I1 : Nat → Nat → Int} {S1 : PS} (c : Ca d mX6_renamed [vR (some (16, 0, as3)), vI xs4] (I, S) (.inl (some (vI z))) (I1, S1)) (k : Ev (d + 1) mX6_tabulate (93, [some (vR (some (16, 0, a0))), some (vI x1), some (vI x2), some (vI x3), some (vI x4), some (vI x5), some (vI x6)], [vI z, vR (some (16, 0, as2)), vI xs1, vR (some (1, ns0, as0))], (I1, S1)) r) : Ev (d + 1) mX6_tabulate (90, [some (vR (some (16, 0, a0))), some (vI x1), some (vI x2), some (vI x3), some (vI x4), some (vI x5), some (vI x6)], [vI xs4, vR (some (16, 0, as3)), vR (some (16, 0, as2)), vI xs1, vR (some (1, ns0, as0))], (I, S)) r :=
  s_cvI rfl rfl rfl rfl rfl c k
theorem b_X6_tabulate_93 {d : Nat} {r : PO × PM} {I : Nat → Nat → Int} {S : PS} {a0 ns0 as0 as2 : Nat} {x1 x2 x3 x4 x5 x6 xs1 xs3 z : Int} {I1 : Nat → Nat → Int} {S1 : PS} (c : Ca d mX6_find [vR (some (16, 0, as2)), vI xs3] (I, S) (.inl (some (vI z))) (I1, S1)) (k : Ev (d + 1) mX6_tabulate (96, [some (vR (some (16, 0, a0))), some (vI x1), some (vI x2), some (vI x3), some (vI x4), some (vI x5), some (vI x6)], [vI z, vI xs1, vR (some (1, ns0, as0))], (I1, S1)) r) : Ev (d + 1) mX6_tabulate (93, [some (vR (some (16, 0, a0))), some (vI x1), some (vI x2), some (vI x3), some (vI x4), some (vI x5), some (vI x6)], [vI xs3, vR (some (16, 0, as2)), vI xs1, vR (some (1, ns0, as0))], (I, S)) r :=
  s_cvI rfl rfl rfl rfl rfl c k
theorem b_X6_tabulate_96 {d : Nat} {r : PO × PM} {I : Nat → Nat → Int} {S : PS} {a0 ns0 as0 : Nat} {x1 x2 x3 x4 x5 x6 xs1 xs2 : Int} (hi1 : 0 ≤ xs1 ∧ xs1 < (ns0 : Nat)) (ho2 : -2147483648 ≤ x6 + 1 ∧ x6 + 1 ≤ 2147483647) (k : Ev d mX6_tabulate (47, [some (vR (some (16, 0, a0))), some (vI x1), some (vI x2), some (vI x3), some (vI x4), some (vI x5), some (vI (x6 + 1))], [], ((up2 I as0 (xs1.toNat) (p_i2b (p_i2b xs2))), S)) r) : Ev d mX6_tabulate (96, [some (vR (some (16, 0, a0))), some (vI x1), some (vI x2), some (vI x3), some (vI x4), some (vI x5), some (vI x6)], [vI xs2, vI xs1, vR (some (1, ns0, as0))], (I, S)) r :=
  s_i2b rfl <|
  s_bast rfl hi1 <|
  s_iincp [some (vR (some (16, 0, a0))), some (vI x1), some (vI x2), some (vI x3), some (vI x4), some (vI x5), some (vI (x6 + 1))] rfl rfl ho2 rfl <|
  s_goto 47 rfl rfl k
theorem b_X6_tabulate_104 {d : Nat} {I : Nat → Nat → Int} {S : PS} {a0 : Nat} {x1 x2 x3 x4 x5 x6 : Int} : Ev d mX6_tabulate (104, [some (vR (some (16, 0, a0))), some (vI x1), some (vI x2), some (vI x3), some (vI x4), some (vI x5), some (vI x6)], [], (I, S)) (.inl none, (I, S)) :=
  s_vret rfl rfl
theorem b_X6_colourAt_0 {d : Nat} {I : Nat → Nat → Int} {S : PS} {a0 : Nat} {x1 x2 : Int} (ho1 : -2147483648 ≤ I a0 0 - 1 ∧ I a0 0 - 1 ≤ 2147483647) (ho2 : -2147483648 ≤ I a0 0 - 1 - x2 ∧ I a0 0 - 1 - x2 ≤ 2147483647) (ho3 : -2147483648 ≤ 2 * (I a0 0 - 1 - x2) ∧ 2 * (I a0 0 - 1 - x2) ≤ 2147483647) : Ev d mX6_colourAt (0, [some (vR (some (16, 0, a0))), some (vI x1), some (vI x2)], [], (I, S)) (.inl (some (vI (p_and (p_shr x1 (2 * (I a0 0 - 1 - x2))) 3))), (I, S)) :=
  s_iload_n rfl rfl rfl <|
  s_iconst rfl rfl <|
  s_aload_n rfl rfl rfl <|
  s_getI rfl rfl rfl <|
  s_iconst rfl rfl <|
  s_isubp rfl ho1 <|
  s_iload_n rfl rfl rfl <|
  s_isubp rfl ho2 <|
  s_imulp rfl ho3 <|
  s_ishr rfl <|
  s_iconst rfl rfl <|
  s_iand rfl <|
  s_ret rfl rfl
theorem b_X6_codeOfDigits_0 {d : Nat} {r : PO × PM} {I : Nat → Nat → Int} {S : PS} {a0 : Nat} {x1 : Int} (kt : 0 ≤ x1 → Ev d mX6_codeOfDigits (6, [some (vR (some (16, 0, a0))), some (vI x1), none, none, none, none], [], (I, S)) r) (kf : x1 < 0 → Ev d mX6_codeOfDigits (4, [some (vR (some (16, 0, a0))), some (vI x1), none, none, none, none], [], (I, S)) r) : Ev d mX6_codeOfDigits (0, [some (vR (some (16, 0, a0))), some (vI x1), none, none, none, none], [], (I, S)) r :=
  s_iload_n rfl rfl rfl <|
  s_if_ge 6 rfl rfl kt kf
theorem b_X6_codeOfDigits_4 {d : Nat} {I : Nat → Nat → Int} {S : PS} {a0 : Nat} {x1 : Int} : Ev d mX6_codeOfDigits (4, [some (vR (some (16, 0, a0))), some (vI x1), none, none, none, none], [], (I, S)) (.inl (some (vI (-1))), (I, S)) :=
  s_iconst rfl rfl <|
  s_ret rfl rfl
theorem b_X6_codeOfDigits_6 {d : Nat} {r : PO × PM} {I : Nat → Nat → Int} {S : PS} {a0 : Nat} {x1 : Int} (k : Ev d mX6_codeOfDigits (13, [some (vR (some (16, 0, a0))), some (vI x1), some (vI x1), some (vI 0), some (vI 0), none], [], (I, S)) r) : Ev d mX6_codeOfDigits (6, [some (vR (some (16, 0, a0))), some (vI x1), none, none, none, none], [], (I, S)) r :=
  s_iload_n rfl rfl rfl <|
  s_istore_n [some (vR (some (16, 0, a0))), some (vI x1), some (vI x1), none, none, none] rfl rfl <|
  s_iconst rfl rfl <|
  s_istore_n [some (vR (some (16, 0, a0))), some (vI x1), some (vI x1), some (vI 0), none, none] rfl rfl <|
  s_iconst rfl rfl <|
  s_istore [some (vR (some (16, 0, a0))), some (vI x1), some (vI x1), some (vI 0), some (vI 0), none] rfl rfl <|
  k
theorem b_X6_codeOfDigits_13 {d : Nat} {r : PO × PM} {I : Nat → Nat → Int} {S : PS} {a0 : Nat} {x1 x2 x3 x4 : Int} (kt : I a0 0 ≤ x4 → Ev d mX6_codeOfDigits (57, [some (vR (some (16, 0, a0))), some (vI x1), some (vI x2), some (vI x3), some (vI x4), none], [], (I, S)) r) (kf : x4 < I a0 0 → Ev d mX6_codeOfDigits (22, [some (vR (some (16, 0, a0))), some (vI x1), some (vI x2), some (vI x3), some (vI x4), none], [], (I, S)) r) : Ev d mX6_codeOfDigits (13, [some (vR (some (16, 0, a0))), some (vI x1), some (vI x2), some (vI x3), some (vI x4), none], [], (I, S)) r :=
  s_iload rfl rfl rfl <|
  s_aload_n rfl rfl rfl <|
  s_getI rfl rfl rfl <|
  s_icmp_ge 57 rfl rfl kt kf
theorem b_X6_codeOfDigits_22 {d : Nat} {r : PO × PM} {I : Nat → Nat → Int} {S : PS} {a0 : Nat} {x1 x2 x3 x4 : Int} (hd1 : (0 ≤ x2 ∧ x2 ≤ 2147483647) ∧ 0 < (10 : Int) ∧ (10 : Int) ≤ 2147483647) (kt : x2 % 10 < 4 → Ev d mX6_codeOfDigits (36, [some (vR (some (16, 0, a0))), some (vI x1), some (vI x2), some (vI x3), some (vI x4), some (vI (x2 % 10))], [], (I, S)) r) (kf : 4 ≤ x2 % 10 → Ev d mX6_codeOfDigits (34, [some (vR (some (16, 0, a0))), some (vI x1), some (vI x2), some (vI x3), some (vI x4), some (vI (x2 % 10))], [], (I, S)) r) : Ev d mX6_codeOfDigits (22, [some (vR (some (16, 0, a0))), some (vI x1), some (vI x2), some (vI x3), some (vI x4), none], [], (I, S)) r :=
  s_iload_n rfl rfl rfl <|
  s_bipush rfl rfl <|
  s_iremp rfl hd1 <|
  s_istore [some (vR (some (16, 0, a0))), some (vI x1), some (vI x2), some (vI x3), some (vI x4), some (vI (x2 % 10))] rfl rfl <|
  s_iload rfl rfl rfl <|
  s_iconst rfl rfl <|
  s_icmp_lt 36 rfl rfl kt kf
theorem b_X6_codeOfDigits_34 {d : Nat} {I : Nat → Nat → Int} {S : PS} {a0 : Nat} {x1 x2 x3 x4 x5 : Int} : Ev d mX6_codeOfDigits (34, [some (vR (some (16, 0, a0))), some (vI x1), some (vI x2), some (vI x3), some (vI x4), some (vI x5)], [], (I, S)) (.inl (some (vI (-1))), (I, S)) :=
  s_iconst rfl rfl <|
  s_ret rfl rfl
theorem b_X6_codeOfDigits_36 {d : Nat} {r : PO × PM} {I : Nat → Nat → Int} {S : PS} {a0 : Nat} {x1 x2 x3 x4 x5 : Int} (ho1 : -2147483648 ≤ 2 * x4 ∧ 2 * x4 ≤ 2147483647) (hd2 : (0 ≤ x2 ∧ x2 ≤ 2147483647) ∧ 0 < (10 : Int) ∧ (10 : Int) ≤ 2147483647) (ho3 : -2147483648 ≤ x4 + 1 ∧ x4 + 1 ≤ 2147483647) (k : Ev d mX6_codeOfDigits (13, [some (vR (some (16, 0, a0))), some (vI x1), some (vI (x2 / 10)), some (vI (p_or x3 (p_shl x5 (2 * x4)))), some (vI (x4 + 1)), none], [], (I, S)) r) : Ev d mX6_codeOfDigits (36, [some (vR (some (16, 0, a0))), some (vI x1), some (vI x2), some (vI x3), some (vI x4), some (vI x5)], [], (I, S)) r :=
  s_iload_n rfl rfl rfl <|
  s_iload rfl rfl rfl <|
  s_iconst rfl rfl <|
  s_iload rfl rfl rfl <|
  s_imulp rfl ho1 <|
  s_ishl rfl <|
  s_ior rfl <|
  s_istore_n [some (vR (some (16, 0, a0))), some (vI x1), some (vI x2), some (vI (p_or x3 (p_shl x5 (2 * x4)))), some (vI x4), some (vI x5)] rfl rfl <|
  s_iload_n rfl rfl rfl <|
  s_bipush rfl rfl <|
  s_idivp rfl hd2 <|
  s_istore_n [some (vR (some (16, 0, a0))), some (vI x1), some (vI (x2 / 10)), some (vI (p_or x3 (p_shl x5 (2 * x4)))), some (vI x4), some (vI x5)] rfl rfl <|
  s_iincp [some (vR (some (16, 0, a0))), some (vI x1), some (vI (x2 / 10)), some (vI (p_or x3 (p_shl x5 (2 * x4)))), some (vI (x4 + 1)), some (vI x5)] rfl rfl ho3 rfl <|
  s_goto 13 rfl rfl (ev_forget [false, false, false, false, false, true] rfl k)
theorem b_X6_codeOfDigits_57 {d : Nat} {r : PO × PM} {I : Nat → Nat → Int} {S : PS} {a0 : Nat} {x1 x2 x3 x4 : Int} (kt : x2 ≠ 0 → Ev d mX6_codeOfDigits (65, [some (vR (some (16, 0, a0))), some (vI x1), some (vI x2), some (vI x3), some (vI x4), none], [], (I, S)) r) (kf : x2 = 0 → Ev d mX6_codeOfDigits (61, [some (vR (some (16, 0, a0))), some (vI x1), some (vI x2), some (vI x3), some (vI x4), none], [], (I, S)) r) : Ev d mX6_codeOfDigits (57, [some (vR (some (16, 0, a0))), some (vI x1), some (vI x2), some (vI x3), some (vI x4), none], [], (I, S)) r :=
  s_iload_n rfl rfl rfl <|
  s_if_ne 65 rfl rfl kt kf
theorem b_X6_codeOfDigits_61 {d : Nat} {r : PO × PM} {I : Nat → Nat → Int} {S : PS} {a0 : Nat} {x1 x2 x3 x4 : Int} (k : Ev d mX6_codeOfDigits (66, [some (vR (some (16, 0, a0))), some (vI x1), some (vI x2), some (vI x3), some (vI x4), none], [vI x3], (I, S)) r) : Ev d mX6_codeOfDigits (61, [some (vR (some (16, 0, a0))), some (vI x1), some (vI x2), some (vI x3), some (vI x4), none], [], (I, S)) r :=
  s_iload_n rfl rfl rfl <|
  s_goto 66 rfl rfl k
theorem b_X6_codeOfDigits_65 {d : Nat} {r : PO × PM} {I : Nat → Nat → Int} {S : PS} {a0 : Nat} {x1 x2 x3 x4 : Int} (k : Ev d mX6_codeOfDigits (66, [some (vR (some (16, 0, a0))), some (vI x1), some (vI x2), some (vI x3), some (vI x4), none], [vI (-1)], (I, S)) r) : Ev d mX6_codeOfDigits (65, [some (vR (some (16, 0, a0))), some (vI x1), some (vI x2), some (vI x3), some (vI x4), none], [], (I, S)) r :=
  s_iconst rfl rfl <|
  k
theorem b_X6_codeOfDigits_66 {d : Nat} {I : Nat → Nat → Int} {S : PS} {a0 : Nat} {x1 x2 x3 x4 xs0 : Int} : Ev d mX6_codeOfDigits (66, [some (vR (some (16, 0, a0))), some (vI x1), some (vI x2), some (vI x3), some (vI x4), none], [vI xs0], (I, S)) (.inl (some (vI xs0)), (I, S)) :=
  s_ret rfl rfl
theorem b_X6_find_0 {d : Nat} {r : PO × PM} {I : Nat → Nat → Int} {S : PS} {a0 : Nat} {x1 : Int} (ho1 : -2147483648 ≤ I a0 1 - 1 ∧ I a0 1 - 1 ≤ 2147483647) (k : Ev d mX6_find (12, [some (vR (some (16, 0, a0))), some (vI x1), some (vI 0), some (vI (I a0 1 - 1)), some (vI 0), none], [], (I, S)) r) : Ev d mX6_find (0, [some (vR (some (16, 0, a0))), some (vI x1), none, none, none, none], [], (I, S)) r :=
  s_iconst rfl rfl <|
  s_istore_n [some (vR (some (16, 0, a0))), some (vI x1), some (vI 0), none, none, none] rfl rfl <|
  s_aload_n rfl rfl rfl <|
  s_getI rfl rfl rfl <|
  s_iconst rfl rfl <|
  s_isubp rfl ho1 <|
  s_istore_n [some (vR (some (16, 0, a0))), some (vI x1), some (vI 0), some (vI (I a0 1 - 1)), none, none] rfl rfl <|
  s_iconst rfl rfl <|
  s_istore [some (vR (some (16, 0, a0))), some (vI x1), some (vI 0), some (vI (I a0 1 - 1)), some (vI 0), none] rfl rfl <|
  k
theorem b_X6_find_12 {d : Nat} {r : PO × PM} {I : Nat → Nat → Int} {S : PS} {a0 : Nat} {x1 x2 x3 x4 : Int} (kt : 91 ≤ x4 → Ev d mX6_find (75, [some (vR (some (16, 0, a0))), some (vI x1), some (vI x2), some (vI x3), some (vI x4), none], [], (I, S)) r) (kf : x4 < 91 → Ev d mX6_find (19, [some (vR (some (16, 0, a0))), some (vI x1), some (vI x2), some (vI x3), some (vI x4), none], [], (I, S)) r) : Ev d mX6_find (12, [some (vR (some (16, 0, a0))), some (vI x1), some (vI x2), some (vI x3), some (vI x4), none], [], (I, S)) r :=
  s_iload rfl rfl rfl <|
  s_bipush rfl rfl <|
  s_icmp_ge 75 rfl rfl kt kf
theorem b_X6_find_19 {d : Nat} {r : PO × PM} {I : Nat → Nat → Int} {S : PS} {a0 : Nat} {x1 x2 x3 x4 : Int} (kt : x3 < x2 → Ev d mX6_find (75, [some (vR (some (16, 0, a0))), some (vI x1), some (vI x2), some (vI x3), some (vI x4), none], [], (I, S)) r) (kf : x2 ≤ x3 → Ev d mX6_find (24, [some (vR (some (16, 0, a0))), some (vI x1), some (vI x2), some (vI x3), some (vI x4), none], [], (I, S)) r) : Ev d mX6_find (19, [some (vR (some (16, 0, a0))), some (vI x1), some (vI x2), some (vI x3), some (vI x4), none], [], (I, S)) r :=
  s_iload_n rfl rfl rfl <|
  s_iload_n rfl rfl rfl <|
  s_icmp_gt 75 rfl rfl kt kf
theorem b_X6_find_24 {d : Nat} {r : PO × PM} {I : Nat → Nat → Int} {S : PS} {a0 p3 q3 : Nat} {x1 x2 x3 x4 : Int} (ho1 : -2147483648 ≤ x2 + x3 ∧ x2 + x3 ≤ 2147483647) (hd2 : (0 ≤ x2 + x3 ∧ x2 + x3 ≤ 2147483647) ∧ 0 < (2 : Int) ∧ (2 : Int) ≤ 2147483647) (hr3 : S.1 a0 2 = some (0, q3, p3)) (hi4 : 0 ≤ (x2 + x3) / 2 ∧ (x2 + x3) / 2 < (q3 : Nat)) (kt : I p3 ((x2 + x3) / 2).toNat ≠ x1 → Ev d mX6_find (45, [some (vR (some (16, 0, a0))), some (vI x1), some (vI x2), some (vI x3), some (vI x4), some (vI ((x2 + x3) / 2))], [], (I, S)) r) (kf : I p3 ((x2 + x3) / 2).toNat = x1 → Ev d mX6_find (42, [some (vR (some (16, 0, a0))), some (vI x1), some (vI x2), some (vI x3), some (vI x4), some (vI ((x2 + x3) / 2))], [], (I, S)) r) : Ev d mX6_find (24, [some (vR (some (16, 0, a0))), some (vI x1), some (vI x2), some (vI x3), some (vI x4), none], [], (I, S)) r :=
  s_iload_n rfl rfl rfl <|
  s_iload_n rfl rfl rfl <|
  s_iaddp rfl ho1 <|
  s_iconst rfl rfl <|
  s_idivp rfl hd2 <|
  s_istore [some (vR (some (16, 0, a0))), some (vI x1), some (vI x2), some (vI x3), some (vI x4), some (vI ((x2 + x3) / 2))] rfl rfl <|
  s_aload_n rfl rfl rfl <|
  s_getR rfl rfl rfl hr3 <|
  s_iload rfl rfl rfl <|
  s_iald rfl rfl hi4 <|
  s_iload_n rfl rfl rfl <|
  s_icmp_ne 45 rfl rfl kt kf
theorem b_X6_find_42 {d : Nat} {I : Nat → Nat → Int} {S : PS} {a0 : Nat} {x1 x2 x3 x4 x5 : Int} : Ev d mX6_find (42, [some (vR (some (16, 0, a0))), some (vI x1), some (vI x2), some (vI x3), some (vI x4), some (vI x5)], [], (I, S)) (.inl (some (vI x5)), (I, S)) :=
  s_iload rfl rfl rfl <|
  s_ret rfl rfl
theorem b_X6_find_45 {d : Nat} {r : PO × PM} {I : Nat → Nat → Int} {S : PS} {a0 p1 q1 : Nat} {x1 x2 x3 x4 x5 : Int} (hr1 : S.1 a0 2 = some (0, q1, p1)) (hi2 : 0 ≤ x5 ∧ x5 < (q1 : Nat)) (kt : x1 ≤ I p1 x5.toNat → Ev d mX6_find (64, [some (vR (some (16, 0, a0))), some (vI x1), some (vI x2), some (vI x3), some (vI x4), some (vI x5)], [], (I, S)) r) (kf : I p1 x5.toNat < x1 → Ev d mX6_find (56, [some (vR (some (16, 0, a0))), some (vI x1), some (vI x2), some (vI x3), some (vI x4), some (vI x5)], [], (I, S)) r) : Ev d mX6_find (45, [some (vR (some (16, 0, a0))), some (vI x1), some (vI x2), some (vI x3), some (vI x4), some (vI x5)], [], (I, S)) r :=
  s_aload_n rfl rfl rfl <|
  s_getR rfl rfl rfl hr1 <|
  s_iload rfl rfl rfl <|
  s_iald rfl rfl hi2 <|
  s_iload_n rfl rfl rfl <|
  s_icmp_ge 64 rfl rfl kt kf
theorem b_X6_find_56 {d : Nat} {r : PO × PM} {I : Nat → Nat → Int} {S : PS} {a0 : Nat} {x1 x2 x3 x4 x5 : Int} (ho1 : -2147483648 ≤ x5 + 1 ∧ x5 + 1 ≤ 2147483647) (k : Ev d mX6_find (69, [some (vR (some (16, 0, a0))), some (vI x1), some (vI (x5 + 1)), some (vI x3), some (vI x4), some (vI x5)], [], (I, S)) r) : Ev d mX6_find (56, [some (vR (some (16, 0, a0))), some (vI x1), some (vI x2), some (vI x3), some (vI x4), some (vI x5)], [], (I, S)) r :=
  s_iload rfl rfl rfl <|
  s_iconst rfl rfl <|
  s_iaddp rfl ho1 <|
  s_istore_n [some (vR (some (16, 0, a0))), some (vI x1), some (vI (x5 + 1)), some (vI x3), some (vI x4), some (vI x5)] rfl rfl <|
  s_goto 69 rfl rfl k
theorem b_X6_find_64 {d : Nat} {r : PO × PM} {I : Nat → Nat → Int} {S : PS} {a0 : Nat} {x1 x2 x3 x4 x5 : Int} (ho1 : -2147483648 ≤ x5 - 1 ∧ x5 - 1 ≤ 2147483647) (k : Ev d mX6_find (69, [some (vR (some (16, 0, a0))), some (vI x1), some (vI x2), some (vI (x5 - 1)), some (vI x4), some (vI x5)], [], (I, S)) r) : Ev d mX6_find (64, [some (vR (some (16, 0, a0))), some (vI x1), some (vI x2), some (vI x3), some (vI x4), some (vI x5)], [], (I, S)) r :=
  s_iload rfl rfl rfl <|
  s_iconst rfl rfl <|
  s_isubp rfl ho1 <|
  s_istore_n [some (vR (some (16, 0, a0))), some (vI x1), some (vI x2), some (vI (x5 - 1)), some (vI x4), some (vI x5)] rfl rfl <|
  k
theorem b_X6_find_69 {d : Nat} {r : PO × PM} {I : Nat → Nat → Int} {S : PS} {a0 : Nat} {x1 x2 x3 x4 x5 : Int} (ho1 : -2147483648 ≤ x4 + 1 ∧ x4 + 1 ≤ 2147483647) (k : Ev d mX6_find (12, [some (vR (some (16, 0, a0))), some (vI x1), some (vI x2), some (vI x3), some (vI (x4 + 1)), none], [], (I, S)) r) : Ev d mX6_find (69, [some (vR (some (16, 0, a0))), some (vI x1), some (vI x2), some (vI x3), some (vI x4), some (vI x5)], [], (I, S)) r :=
  s_iincp [some (vR (some (16, 0, a0))), some (vI x1), some (vI x2), some (vI x3), some (vI (x4 + 1)), some (vI x5)] rfl rfl ho1 rfl <|
  s_goto 12 rfl rfl (ev_forget [false, false, false, false, false, true] rfl k)
theorem b_X6_find_75 {d : Nat} {I : Nat → Nat → Int} {S : PS} {a0 : Nat} {x1 x2 x3 x4 : Int} : Ev d mX6_find (75, [some (vR (some (16, 0, a0))), some (vI x1), some (vI x2), some (vI x3), some (vI x4), none], [], (I, S)) (.inl (some (vI (-1))), (I, S)) :=
  s_iconst rfl rfl <|
  s_ret rfl rfl
theorem b_X6_renamed_0 {d : Nat} {r : PO × PM} {I : Nat → Nat → Int} {S : PS} {a0 : Nat} {x1 : Int} (k : Ev d mX6_renamed (13, [some (vR (some (16, 0, a0))), some (vI x1), some (vI 0), some (vI 0), some (vI 0), some (vI 0), some (vI 0), none], [], (I, S)) r) : Ev d mX6_renamed (0, [some (vR (some (16, 0, a0))), some (vI x1), none, none, none, none, none, none], [], (I, S)) r :=
  s_iconst rfl rfl <|
  s_istore_n [some (vR (some (16, 0, a0))), some (vI x1), some (vI 0), none, none, none, none, none] rfl rfl <|
  s_iconst rfl rfl <|
  s_istore_n [some (vR (some (16, 0, a0))), some (vI x1), some (vI 0), some (vI 0), none, none, none, none] rfl rfl <|
  s_iconst rfl rfl <|
  s_istore [some (vR (some (16, 0, a0))), some (vI x1), some (vI 0), some (vI 0), some (vI 0), none, none, none] rfl rfl <|
  s_iconst rfl rfl <|
  s_istore [some (vR (some (16, 0, a0))), some (vI x1), some (vI 0), some (vI 0), some (vI 0), some (vI 0), none, none] rfl rfl <|
  s_iconst rfl rfl <|
  s_istore [some (vR (some (16, 0, a0))), some (vI x1), some (vI 0), some (vI 0), some (vI 0), some (vI 0), some (vI 0), none] rfl rfl <|
  k
theorem b_X6_renamed_13 {d : Nat} {r : PO × PM} {I : Nat → Nat → Int} {S : PS} {a0 : Nat} {x1 x2 x3 x4 x5 x6 : Int} (kt : I a0 0 ≤ x6 → Ev d mX6_renamed (89, [some (vR (some (16, 0, a0))), some (vI x1), some (vI x2), some (vI x3), some (vI x4), some (vI x5), some (vI x6), none], [], (I, S)) r) (kf : x6 < I a0 0 → Ev d mX6_renamed (22, [some (vR (some (16, 0, a0))), some (vI x1), some (vI x2), some (vI x3), some (vI x4), some (vI x5), some (vI x6), none], [], (I, S)) r) : Ev d mX6_renamed (13, [some (vR (some (16, 0, a0))), some (vI x1), some (vI x2), some (vI x3), some (vI x4), some (vI x5), some (vI x6), none], [], (I, S)) r :=
  s_iload rfl rfl rfl <|
  s_aload_n rfl rfl rfl <|
  s_getI rfl rfl rfl <|
  s_icmp_ge 89 rfl rfl kt kf
theorem b_X6_renamed_22 {d : Nat} {r : PO × PM} {I : Nat → Nat → Int} {S : PS} {a0 : Nat} {x1 x2 x3 x4 x5 x6 : Int} (ho1 : -2147483648 ≤ I a0 0 - 1 ∧ I a0 0 - 1 ≤ 2147483647) (ho2 : -2147483648 ≤ I a0 0 - 1 - x6 ∧ I a0 0 - 1 - x6 ≤ 2147483647) (ho3 : -2147483648 ≤ 2 * (I a0 0 - 1 - x6) ∧ 2 * (I a0 0 - 1 - x6) ≤ 2147483647) (kt : p_and (p_shr x3 (p_and (p_shr x1 (2 * (I a0 0 - 1 - x6))) 3)) 1 ≠ 0 → Ev d mX6_renamed (68, [some (vR (some (16, 0, a0))), some (vI x1), some (vI x2), some (vI x3), some (vI x4), some (vI x5), some (vI x6), some (vI (p_and (p_shr x1 (2 * (I a0 0 - 1 - x6))) 3))], [], (I, S)) r) (kf : p_and (p_shr x3 (p_and (p_shr x1 (2 * (I a0 0 - 1 - x6))) 3)) 1 = 0 → Ev d mX6_renamed (48, [some (vR (some (16, 0, a0))), some (vI x1), some (vI x2), some (vI x3), some (vI x4), some (vI x5), some (vI x6), some (vI (p_and (p_shr x1 (2 * (I a0 0 - 1 - x6))) 3))], [], (I, S)) r) : Ev d mX6_renamed (22, [some (vR (some (16, 0, a0))), some (vI x1), some (vI x2), some (vI x3), some (vI x4), some (vI x5), some (vI x6), none], [], (I, S)) r :=
  s_iload_n rfl rfl rfl <|
  s_iconst rfl rfl <|
  s_aload_n rfl rfl rfl <|
  s_getI rfl rfl rfl <|
  s_iconst rfl rfl <|
  s_isubp rfl ho1 <|
  s_iload rfl rfl rfl <|
  s_isubp rfl ho2 <|
  s_imulp rfl ho3 <|
  s_ishr rfl <|
  s_iconst rfl rfl <|
  s_iand rfl <|
  s_istore [some (vR (some (16, 0, a0))), some (vI x1), some (vI x2), some (vI x3), some (vI x4), some (vI x5), some (vI x6), some (vI (p_and (p_shr x1 (2 * (I a0 0 - 1 - x6))) 3))] rfl rfl <|
  s_iload_n rfl rfl rfl <|
  s_iload rfl rfl rfl <|
  s_ishr rfl <|
  s_iconst rfl rfl <|
  s_iand rfl <|
  s_if_ne 68 rfl rfl kt kf
theorem b_X6_renamed_48 {d : Nat} {r : PO × PM} {I : Nat → Nat → Int} {S : PS} {a0 : Nat} {x1 x2 x3 x4 x5 x6 x7 : Int} (ho1 : -2147483648 ≤ 2 * x7 ∧ 2 * x7 ≤ 2147483647) (ho2 : -2147483648 ≤ x4 + 1 ∧ x4 + 1 ≤ 2147483647) (k : Ev d mX6_renamed (68, [some (vR (some (16, 0, a0))), some (vI x1), some (vI (p_or x2 (p_shl x4 (2 * x7)))), some (vI (p_or x3 (p_shl 1 x7))), some (vI (x4 + 1)), some (vI x5), some (vI x6), some (vI x7)], [], (I, S)) r) : Ev d mX6_renamed (48, [some (vR (some (16, 0, a0))), some (vI x1), some (vI x2), some (vI x3), some (vI x4), some (vI x5), some (vI x6), some (vI x7)], [], (I, S)) r :=
  s_iload_n rfl rfl rfl <|
  s_iconst rfl rfl <|
  s_iload rfl rfl rfl <|
  s_ishl rfl <|
  s_ior rfl <|
  s_istore_n [some (vR (some (16, 0, a0))), some (vI x1), some (vI x2), some (vI (p_or x3 (p_shl 1 x7))), some (vI x4), some (vI x5), some (vI x6), some (vI x7)] rfl rfl <|
  s_iload_n rfl rfl rfl <|
  s_iload rfl rfl rfl <|
  s_iconst rfl rfl <|
  s_iload rfl rfl rfl <|
  s_imulp rfl ho1 <|
  s_ishl rfl <|
  s_ior rfl <|
  s_istore_n [some (vR (some (16, 0, a0))), some (vI x1), some (vI (p_or x2 (p_shl x4 (2 * x7)))), some (vI (p_or x3 (p_shl 1 x7))), some (vI x4), some (vI x5), some (vI x6), some (vI x7)] rfl rfl <|
  s_iincp [some (vR (some (16, 0, a0))), some (vI x1), some (vI (p_or x2 (p_shl x4 (2 * x7)))), some (vI (p_or x3 (p_shl 1 x7))), some (vI (x4 + 1)), some (vI x5), some (vI x6), some (vI x7)] rfl rfl ho2 rfl <|
  k
theorem b_X6_renamed_68 {d : Nat} {r : PO × PM} {I : Nat → Nat → Int} {S : PS} {a0 : Nat} {x1 x2 x3 x4 x5 x6 x7 : Int} (ho1 : -2147483648 ≤ 2 * x7 ∧ 2 * x7 ≤ 2147483647) (ho2 : -2147483648 ≤ x6 + 1 ∧ x6 + 1 ≤ 2147483647) (k : Ev d mX6_renamed (13, [some (vR (some (16, 0, a0))), some (vI x1), some (vI x2), some (vI x3), some (vI x4), some (vI (p_or (p_shl x5 2) (p_and (p_shr x2 (2 * x7)) 3))), some (vI (x6 + 1)), none], [], (I, S)) r) : Ev d mX6_renamed (68, [some (vR (some (16, 0, a0))), some (vI x1), some (vI x2), some (vI x3), some (vI x4), some (vI x5), some (vI x6), some (vI x7)], [], (I, S)) r :=
  s_iload rfl rfl rfl <|
  s_iconst rfl rfl <|
  s_ishl rfl <|
  s_iload_n rfl rfl rfl <|
  s_iconst rfl rfl <|
  s_iload rfl rfl rfl <|
  s_imulp rfl ho1 <|
  s_ishr rfl <|
  s_iconst rfl rfl <|
  s_iand rfl <|
  s_ior rfl <|
  s_istore [some (vR (some (16, 0, a0))), some (vI x1), some (vI x2), some (vI x3), some (vI x4), some (vI (p_or (p_shl x5 2) (p_and (p_shr x2 (2 * x7)) 3))), some (vI x6), some (vI x7)] rfl rfl <|
  s_iincp [some (vR (some (16, 0, a0))), some (vI x1), some (vI x2), some (vI x3), some (vI x4), some (vI (p_or (p_shl x5 2) (p_and (p_shr x2 (2 * x7)) 3))), some (vI (x6 + 1)), some (vI x7)] rfl rfl ho2 rfl <|
  s_goto 13 rfl rfl (ev_forget [false, false, false, false, false, false, false, true] rfl k)
theorem b_X6_renamed_89 {d : Nat} {I : Nat → Nat → Int} {S : PS} {a0 : Nat} {x1 x2 x3 x4 x5 x6 : Int} : Ev d mX6_renamed (89, [some (vR (some (16, 0, a0))), some (vI x1), some (vI x2), some (vI x3), some (vI x4), some (vI x5), some (vI x6), none], [], (I, S)) (.inl (some (vI x5)), (I, S)) :=
  s_iload rfl rfl rfl <|
  s_ret rfl rfl
theorem b_X6_split_0 {d : Nat} {r : PO × PM} {I : Nat → Nat → Int} {S : PS} {a0 : Nat} {x1 x2 : Int} (k : Ev d mX6_split (8, [some (vR (some (16, 0, a0))), some (vI x1), some (vI x2), some (vI 0), some (vI 1), some (vI 0), none, none], [], (I, S)) r) : Ev d mX6_split (0, [some (vR (some (16, 0, a0))), some (vI x1), some (vI x2), none, none, none, none, none], [], (I, S)) r :=
  s_iconst rfl rfl <|
  s_istore_n [some (vR (some (16, 0, a0))), some (vI x1), some (vI x2), some (vI 0), none, none, none, none] rfl rfl <|
  s_iconst rfl rfl <|
  s_istore [some (vR (some (16, 0, a0))), some (vI x1), some (vI x2), some (vI 0), some (vI 1), none, none, none] rfl rfl <|
  s_iconst rfl rfl <|
  s_istore [some (vR (some (16, 0, a0))), some (vI x1), some (vI x2), some (vI 0), some (vI 1), some (vI 0), none, none] rfl rfl <|
  k
theorem b_X6_split_8 {d : Nat} {r : PO × PM} {I : Nat → Nat → Int} {S : PS} {a0 : Nat} {x1 x2 x3 x4 x5 : Int} (kt : I a0 0 ≤ x5 → Ev d mX6_split (82, [some (vR (some (16, 0, a0))), some (vI x1), some (vI x2), some (vI x3), some (vI x4), some (vI x5), none, none], [], (I, S)) r) (kf : x5 < I a0 0 → Ev d mX6_split (17, [some (vR (some (16, 0, a0))), some (vI x1), some (vI x2), some (vI x3), some (vI x4), some (vI x5), none, none], [], (I, S)) r) : Ev d mX6_split (8, [some (vR (some (16, 0, a0))), some (vI x1), some (vI x2), some (vI x3), some (vI x4), some (vI x5), none, none], [], (I, S)) r :=
  s_iload rfl rfl rfl <|
  s_aload_n rfl rfl rfl <|
  s_getI rfl rfl rfl <|
  s_icmp_ge 82 rfl rfl kt kf
theorem b_X6_split_17 {d : Nat} {r : PO × PM} {I : Nat → Nat → Int} {S : PS} {a0 : Nat} {x1 x2 x3 x4 x5 : Int} (ho1 : -2147483648 ≤ I a0 0 - 1 ∧ I a0 0 - 1 ≤ 2147483647) (ho2 : -2147483648 ≤ I a0 0 - 1 - x5 ∧ I a0 0 - 1 - x5 ≤ 2147483647) (ho3 : -2147483648 ≤ 2 * (I a0 0 - 1 - x5) ∧ 2 * (I a0 0 - 1 - x5) ≤ 2147483647) (kt : p_and (p_shr x1 (2 * (I a0 0 - 1 - x5))) 3 = 0 → Ev d mX6_split (47, [some (vR (some (16, 0, a0))), some (vI x1), some (vI x2), some (vI x3), some (vI x4), some (vI x5), some (vI (p_and (p_shr x1 (2 * (I a0 0 - 1 - x5))) 3)), none], [], (I, S)) r) (kf : p_and (p_shr x1 (2 * (I a0 0 - 1 - x5))) 3 ≠ 0 → Ev d mX6_split (39, [some (vR (some (16, 0, a0))), some (vI x1), some (vI x2), some (vI x3), some (vI x4), some (vI x5), some (vI (p_and (p_shr x1 (2 * (I a0 0 - 1 - x5))) 3)), none], [], (I, S)) r) : Ev d mX6_split (17, [some (vR (some (16, 0, a0))), some (vI x1), some (vI x2), some (vI x3), some (vI x4), some (vI x5), none, none], [], (I, S)) r :=
  s_iload_n rfl rfl rfl <|
  s_iconst rfl rfl <|
  s_aload_n rfl rfl rfl <|
  s_getI rfl rfl rfl <|
  s_iconst rfl rfl <|
  s_isubp rfl ho1 <|
  s_iload rfl rfl rfl <|
  s_isubp rfl ho2 <|
  s_imulp rfl ho3 <|
  s_ishr rfl <|
  s_iconst rfl rfl <|
  s_iand rfl <|
  s_istore [some (vR (some (16, 0, a0))), some (vI x1), some (vI x2), some (vI x3), some (vI x4), some (vI x5), some (vI (p_and (p_shr x1 (2 * (I a0 0 - 1 - x5))) 3)), none] rfl rfl <|
  s_iload rfl rfl rfl <|
  s_if_eq 47 rfl rfl kt kf
theorem b_X6_split_39 {d : Nat} {r : PO × PM} {I : Nat → Nat → Int} {S : PS} {a0 : Nat} {x1 x2 x3 x4 x5 x6 : Int} (ho1 : -2147483648 ≤ x2 + 1 ∧ x2 + 1 ≤ 2147483647) (kt : x6 ≠ x2 + 1 → Ev d mX6_split (51, [some (vR (some (16, 0, a0))), some (vI x1), some (vI x2), some (vI x3), some (vI x4), some (vI x5), some (vI x6), none], [], (I, S)) r) (kf : x6 = x2 + 1 → Ev d mX6_split (47, [some (vR (some (16, 0, a0))), some (vI x1), some (vI x2), some (vI x3), some (vI x4), some (vI x5), some (vI x6), none], [], (I, S)) r) : Ev d mX6_split (39, [some (vR (some (16, 0, a0))), some (vI x1), some (vI x2), some (vI x3), some (vI x4), some (vI x5), some (vI x6), none], [], (I, S)) r :=
  s_iload rfl rfl rfl <|
  s_iload_n rfl rfl rfl <|
  s_iconst rfl rfl <|
  s_iaddp rfl ho1 <|
  s_icmp_ne 51 rfl rfl kt kf
theorem b_X6_split_47 {d : Nat} {r : PO × PM} {I : Nat → Nat → Int} {S : PS} {a0 : Nat} {x1 x2 x3 x4 x5 x6 : Int} (k : Ev d mX6_split (52, [some (vR (some (16, 0, a0))), some (vI x1), some (vI x2), some (vI x3), some (vI x4), some (vI x5), some (vI x6), none], [vI 1], (I, S)) r) : Ev d mX6_split (47, [some (vR (some (16, 0, a0))), some (vI x1), some (vI x2), some (vI x3), some (vI x4), some (vI x5), some (vI x6), none], [], (I, S)) r :=
  s_iconst rfl rfl <|
  s_goto 52 rfl rfl k
theorem b_X6_split_51 {d : Nat} {r : PO × PM} {I : Nat → Nat → Int} {S : PS} {a0 : Nat} {x1 x2 x3 x4 x5 x6 : Int} (k : Ev d mX6_split (52, [some (vR (some (16, 0, a0))), some (vI x1), some (vI x2), some (vI x3), some (vI x4), some (vI x5), some (vI x6), none], [vI 0], (I, S)) r) : Ev d mX6_split (51, [some (vR (some (16, 0, a0))), some (vI x1), some (vI x2), some (vI x3), some (vI x4), some (vI x5), some (vI x6), none], [], (I, S)) r :=
  s_iconst rfl rfl <|
  k
theorem b_X6_split_52 {d : Nat} {r : PO × PM} {I : Nat → Nat → Int} {S : PS} {a0 : Nat} {x1 x2 x3 x4 x5 x6 xs0 : Int} (kt : xs0 = x4 → Ev d mX6_split (64, [some (vR (some (16, 0, a0))), some (vI x1), some (vI x2), some (vI x3), some (vI x4), some (vI x5), some (vI x6), some (vI xs0)], [], (I, S)) r) (kf : xs0 ≠ x4 → Ev d mX6_split (61, [some (vR (some (16, 0, a0))), some (vI x1), some (vI x2), some (vI x3), some (vI x4), some (vI x5), some (vI x6), some (vI xs0)], [], (I, S)) r) : Ev d mX6_split (52, [some (vR (some (16, 0, a0))), some (vI x1), some (vI x2), some (vI x3), some (vI x4), some (vI x5), some (vI x6), none], [vI xs0], (I, S)) r :=
  s_istore [some (vR (some (16, 0, a0))), some (vI x1), some (vI x2), some (vI x3), some (vI x4), some (vI x5), some (vI x6), some (vI xs0)] rfl rfl <|
  s_iload rfl rfl rfl <|
  s_iload rfl rfl rfl <|
  s_icmp_eq 64 rfl rfl kt kf
theorem b_X6_split_61 {d : Nat} {r : PO × PM} {I : Nat → Nat → Int} {S : PS} {a0 : Nat} {x1 x2 x3 x4 x5 x6 x7 : Int} (ho1 : -2147483648 ≤ x3 + 1 ∧ x3 + 1 ≤ 2147483647) (k : Ev d mX6_split (64, [some (vR (some (16, 0, a0))), some (vI x1), some (vI x2), some (vI (x3 + 1)), some (vI x4), some (vI x5), some (vI x6), some (vI x7)], [], (I, S)) r) : Ev d mX6_split (61, [some (vR (some (16, 0, a0))), some (vI x1), some (vI x2), some (vI x3), some (vI x4), some (vI x5), some (vI x6), some (vI x7)], [], (I, S)) r :=
  s_iincp [some (vR (some (16, 0, a0))), some (vI x1), some (vI x2), some (vI (x3 + 1)), some (vI x4), some (vI x5), some (vI x6), some (vI x7)] rfl rfl ho1 rfl <|
  k
theorem b_X6_split_64 {d : Nat} {r : PO × PM} {I : Nat → Nat → Int} {S : PS} {a0 p1 q1 : Nat} {x1 x2 x3 x4 x5 x6 x7 : Int} (hr1 : S.1 a0 3 = some (0, q1, p1)) (hi2 : 0 ≤ x5 ∧ x5 < (q1 : Nat)) (ho3 : -2147483648 ≤ x5 + 1 ∧ x5 + 1 ≤ 2147483647) (k : Ev d mX6_split (8, [some (vR (some (16, 0, a0))), some (vI x1), some (vI x2), some (vI x3), some (vI x7), some (vI (x5 + 1)), none, none], [], ((up2 I p1 (x5.toNat) x3), S)) r) : Ev d mX6_split (64, [some (vR (some (16, 0, a0))), some (vI x1), some (vI x2), some (vI x3), some (vI x4), some (vI x5), some (vI x6), some (vI x7)], [], (I, S)) r :=
  s_iload rfl rfl rfl <|
  s_istore [some (vR (some (16, 0, a0))), some (vI x1), some (vI x2), some (vI x3), some (vI x7), some (vI x5), some (vI x6), some (vI x7)] rfl rfl <|
  s_aload_n rfl rfl rfl <|
  s_getR rfl rfl rfl hr1 <|
  s_iload rfl rfl rfl <|
  s_iload_n rfl rfl rfl <|
  s_iast rfl hi2 <|
  s_iincp [some (vR (some (16, 0, a0))), some (vI x1), some (vI x2), some (vI x3), some (vI x7), some (vI (x5 + 1)), some (vI x6), some (vI x7)] rfl rfl ho3 rfl <|
  s_goto 8 rfl rfl (ev_forget [false, false, false, false, false, false, true, true] rfl k)
theorem b_X6_split_82 {d : Nat} {r : PO × PM} {I : Nat → Nat → Int} {S : PS} {a0 : Nat} {x1 x2 x3 x4 x5 : Int} (kt : x3 = 0 → Ev d mX6_split (91, [some (vR (some (16, 0, a0))), some (vI x1), some (vI x2), some (vI x3), some (vI x4), some (vI x5), none, none], [], (I, S)) r) (kf : x3 ≠ 0 → Ev d mX6_split (86, [some (vR (some (16, 0, a0))), some (vI x1), some (vI x2), some (vI x3), some (vI x4), some (vI x5), none, none], [], (I, S)) r) : Ev d mX6_split (82, [some (vR (some (16, 0, a0))), some (vI x1), some (vI x2), some (vI x3), some (vI x4), some (vI x5), none, none], [], (I, S)) r :=
  s_iload_n rfl rfl rfl <|
  s_if_eq 91 rfl rfl kt kf
theorem b_X6_split_86 {d : Nat} {r : PO × PM} {I : Nat → Nat → Int} {S : PS} {a0 : Nat} {x1 x2 x3 x4 x5 : Int} (kt : x4 ≠ 0 → Ev d mX6_split (95, [some (vR (some (16, 0, a0))), some (vI x1), some (vI x2), some (vI x3), some (vI x4), some (vI x5), none, none], [], (I, S)) r) (kf : x4 = 0 → Ev d mX6_split (91, [some (vR (some (16, 0, a0))), some (vI x1), some (vI x2), some (vI x3), some (vI x4), some (vI x5), none, none], [], (I, S)) r) : Ev d mX6_split (86, [some (vR (some (16, 0, a0))), some (vI x1), some (vI x2), some (vI x3), some (vI x4), some (vI x5), none, none], [], (I, S)) r :=
  s_iload rfl rfl rfl <|
  s_if_ne 95 rfl rfl kt kf
theorem b_X6_split_91 {d : Nat} {I : Nat → Nat → Int} {S : PS} {a0 : Nat} {x1 x2 x3 x4 x5 : Int} (ho1 : -2147483648 ≤ x3 + 1 ∧ x3 + 1 ≤ 2147483647) : Ev d mX6_split (91, [some (vR (some (16, 0, a0))), some (vI x1), some (vI x2), some (vI x3), some (vI x4), some (vI x5), none, none], [], (I, S)) (.inl (some (vI (x3 + 1))), (I, S)) :=
  s_iload_n rfl rfl rfl <|
  s_iconst rfl rfl <|
  s_iaddp rfl ho1 <|
  s_ret rfl rfl
theorem b_X6_split_95 {d : Nat} {r : PO × PM} {I : Nat → Nat → Int} {S : PS} {a0 : Nat} {x1 x2 x3 x4 x5 : Int} (ho1 : -2147483648 ≤ I a0 0 - 1 ∧ I a0 0 - 1 ≤ 2147483647) (k : Ev d mX6_split (103, [some (vR (some (16, 0, a0))), some (vI x1), some (vI x2), some (vI x3), some (vI x4), some (vI (I a0 0 - 1)), none, none], [], (I, S)) r) : Ev d mX6_split (95, [some (vR (some (16, 0, a0))), some (vI x1), some (vI x2), some (vI x3), some (vI x4), some (vI x5), none, none], [], (I, S)) r :=
  s_aload_n rfl rfl rfl <|
  s_getI rfl rfl rfl <|
  s_iconst rfl rfl <|
  s_isubp rfl ho1 <|
  s_istore [some (vR (some (16, 0, a0))), some (vI x1), some (vI x2), some (vI x3), some (vI x4), some (vI (I a0 0 - 1)), none, none] rfl rfl <|
  k
theorem b_X6_split_103 {d : Nat} {r : PO × PM} {I : Nat → Nat → Int} {S : PS} {a0 : Nat} {x1 x2 x3 x4 x5 : Int} (kt : x5 < 0 → Ev d mX6_split (133, [some (vR (some (16, 0, a0))), some (vI x1), some (vI x2), some (vI x3), some (vI x4), some (vI x5), none, none], [], (I, S)) r) (kf : 0 ≤ x5 → Ev d mX6_split (108, [some (vR (some (16, 0, a0))), some (vI x1), some (vI x2), some (vI x3), some (vI x4), some (vI x5), none, none], [], (I, S)) r) : Ev d mX6_split (103, [some (vR (some (16, 0, a0))), some (vI x1), some (vI x2), some (vI x3), some (vI x4), some (vI x5), none, none], [], (I, S)) r :=
  s_iload rfl rfl rfl <|
  s_if_lt 133 rfl rfl kt kf
theorem b_X6_split_108 {d : Nat} {r : PO × PM} {I : Nat → Nat → Int} {S : PS} {a0 p1 q1 : Nat} {x1 x2 x3 x4 x5 : Int} (hr1 : S.1 a0 3 = some (0, q1, p1)) (hi2 : 0 ≤ x5 ∧ x5 < (q1 : Nat)) (kt : I p1 x5.toNat ≠ x3 → Ev d mX6_split (133, [some (vR (some (16, 0, a0))), some (vI x1), some (vI x2), some (vI x3), some (vI x4), some (vI x5), none, none], [], (I, S)) r) (kf : I p1 x5.toNat = x3 → Ev d mX6_split (119, [some (vR (some (16, 0, a0))), some (vI x1), some (vI x2), some (vI x3), some (vI x4), some (vI x5), none, none], [], (I, S)) r) : Ev d mX6_split (108, [some (vR (some (16, 0, a0))), some (vI x1), some (vI x2), some (vI x3), some (vI x4), some (vI x5), none, none], [], (I, S)) r :=
  s_aload_n rfl rfl rfl <|
  s_getR rfl rfl rfl hr1 <|
  s_iload rfl rfl rfl <|
  s_iald rfl rfl hi2 <|
  s_iload_n rfl rfl rfl <|
  s_icmp_ne 133 rfl rfl kt kf
theorem b_X6_split_119 {d : Nat} {r : PO × PM} {I : Nat → Nat → Int} {S : PS} {a0 p1 q1 : Nat} {x1 x2 x3 x4 x5 : Int} (hr1 : S.1 a0 3 = some (0, q1, p1)) (hi2 : 0 ≤ x5 ∧ x5 < (q1 : Nat)) (ho3 : -2147483648 ≤ x5 - 1 ∧ x5 - 1 ≤ 2147483647) (k : Ev d mX6_split (103, [some (vR (some (16, 0, a0))), some (vI x1), some (vI x2), some (vI x3), some (vI x4), some (vI (x5 - 1)), none, none], [], ((up2 I p1 (x5.toNat) 0), S)) r) : Ev d mX6_split (119, [some (vR (some (16, 0, a0))), some (vI x1), some (vI x2), some (vI x3), some (vI x4), some (vI x5), none, none], [], (I, S)) r :=
  s_aload_n rfl rfl rfl <|
  s_getR rfl rfl rfl hr1 <|
  s_iload rfl rfl rfl <|
  s_iconst rfl rfl <|
  s_iast rfl hi2 <|
  s_iincpn [some (vR (some (16, 0, a0))), some (vI x1), some (vI x2), some (vI x3), some (vI x4), some (vI (x5 - 1)), none, none] rfl rfl ho3 rfl <|
  s_goto 103 rfl rfl k
theorem b_X6_split_133 {d : Nat} {I : Nat → Nat → Int} {S : PS} {a0 : Nat} {x1 x2 x3 x4 x5 : Int} : Ev d mX6_split (133, [some (vR (some (16, 0, a0))), some (vI x1), some (vI x2), some (vI x3), some (vI x4), some (vI x5), none, none], [], (I, S)) (.inl (some (vI x3)), (I, S)) :=
  s_iload_n rfl rfl rfl <|
  s_ret rfl rfl
theorem b_X6_turned_0 {d : Nat} {r : PO × PM} {I : Nat → Nat → Int} {S : PS} {a0 : Nat} {x1 x2 x3 : Int} (k : Ev d mX6_turned (6, [some (vR (some (16, 0, a0))), some (vI x1), some (vI x2), some (vI x3), some (vI x1), some (vI 0)], [], (I, S)) r) : Ev d mX6_turned (0, [some (vR (some (16, 0, a0))), some (vI x1), some (vI x2), some (vI x3), none, none], [], (I, S)) r :=
  s_iload_n rfl rfl rfl <|
  s_istore [some (vR (some (16, 0, a0))), some (vI x1), some (vI x2), some (vI x3), some (vI x1), none] rfl rfl <|
  s_iconst rfl rfl <|
  s_istore [some (vR (some (16, 0, a0))), some (vI x1), some (vI x2), some (vI x3), some (vI x1), some (vI 0)] rfl rfl <|
  k
theorem b_X6_turned_6 {d : Nat} {r : PO × PM} {I : Nat → Nat → Int} {S : PS} {a0 : Nat} {x1 x2 x3 x4 x5 : Int} (kt : I a0 0 ≤ x5 → Ev d mX6_turned (55, [some (vR (some (16, 0, a0))), some (vI x1), some (vI x2), some (vI x3), some (vI x4), some (vI x5)], [], (I, S)) r) (kf : x5 < I a0 0 → Ev d mX6_turned (15, [some (vR (some (16, 0, a0))), some (vI x1), some (vI x2), some (vI x3), some (vI x4), some (vI x5)], [], (I, S)) r) : Ev d mX6_turned (6, [some (vR (some (16, 0, a0))), some (vI x1), some (vI x2), some (vI x3), some (vI x4), some (vI x5)], [], (I, S)) r :=
  s_iload rfl rfl rfl <|
  s_aload_n rfl rfl rfl <|
  s_getI rfl rfl rfl <|
  s_icmp_ge 55 rfl rfl kt kf
theorem b_X6_turned_15 {d : Nat} {r : PO × PM} {I : Nat → Nat → Int} {S : PS} {a0 p1 q1 : Nat} {x1 x2 x3 x4 x5 : Int} (hr1 : S.1 a0 3 = some (0, q1, p1)) (hi2 : 0 ≤ x5 ∧ x5 < (q1 : Nat)) (kt : p_and (p_shr x3 (I p1 x5.toNat)) 1 = 0 → Ev d mX6_turned (49, [some (vR (some (16, 0, a0))), some (vI x1), some (vI x2), some (vI x3), some (vI x4), some (vI x5)], [], (I, S)) r) (kf : p_and (p_shr x3 (I p1 x5.toNat)) 1 ≠ 0 → Ev d mX6_turned (29, [some (vR (some (16, 0, a0))), some (vI x1), some (vI x2), some (vI x3), some (vI x4), some (vI x5)], [], (I, S)) r) : Ev d mX6_turned (15, [some (vR (some (16, 0, a0))), some (vI x1), some (vI x2), some (vI x3), some (vI x4), some (vI x5)], [], (I, S)) r :=
  s_iload_n rfl rfl rfl <|
  s_aload_n rfl rfl rfl <|
  s_getR rfl rfl rfl hr1 <|
  s_iload rfl rfl rfl <|
  s_iald rfl rfl hi2 <|
  s_ishr rfl <|
  s_iconst rfl rfl <|
  s_iand rfl <|
  s_if_eq 49 rfl rfl kt kf
theorem b_X6_turned_29 {d : Nat} {r : PO × PM} {I : Nat → Nat → Int} {S : PS} {a0 : Nat} {x1 x2 x3 x4 x5 : Int} (ho1 : -2147483648 ≤ x2 + 1 ∧ x2 + 1 ≤ 2147483647) (ho2 : -2147483648 ≤ I a0 0 - 1 ∧ I a0 0 - 1 ≤ 2147483647) (ho3 : -2147483648 ≤ I a0 0 - 1 - x5 ∧ I a0 0 - 1 - x5 ≤ 2147483647) (ho4 : -2147483648 ≤ 2 * (I a0 0 - 1 - x5) ∧ 2 * (I a0 0 - 1 - x5) ≤ 2147483647) (k : Ev d mX6_turned (49, [some (vR (some (16, 0, a0))), some (vI x1), some (vI x2), some (vI x3), some (vI (p_xor x4 (p_shl (x2 + 1) (2 * (I a0 0 - 1 - x5))))), some (vI x5)], [], (I, S)) r) : Ev d mX6_turned (29, [some (vR (some (16, 0, a0))), some (vI x1), some (vI x2), some (vI x3), some (vI x4), some (vI x5)], [], (I, S)) r :=
  s_iload rfl rfl rfl <|
  s_iload_n rfl rfl rfl <|
  s_iconst rfl rfl <|
  s_iaddp rfl ho1 <|
  s_iconst rfl rfl <|
  s_aload_n rfl rfl rfl <|
  s_getI rfl rfl rfl <|
  s_iconst rfl rfl <|
  s_isubp rfl ho2 <|
  s_iload rfl rfl rfl <|
  s_isubp rfl ho3 <|
  s_imulp rfl ho4 <|
  s_ishl rfl <|
  s_ixor rfl <|
  s_istore [some (vR (some (16, 0, a0))), some (vI x1), some (vI x2), some (vI x3), some (vI (p_xor x4 (p_shl (x2 + 1) (2 * (I a0 0 - 1 - x5))))), some (vI x5)] rfl rfl <|
  k
theorem b_X6_turned_49 {d : Nat} {r : PO × PM} {I : Nat → Nat → Int} {S : PS} {a0 : Nat} {x1 x2 x3 x4 x5 : Int} (ho1 : -2147483648 ≤ x5 + 1 ∧ x5 + 1 ≤ 2147483647) (k : Ev d mX6_turned (6, [some (vR (some (16, 0, a0))), some (vI x1), some (vI x2), some (vI x3), some (vI x4), some (vI (x5 + 1))], [], (I, S)) r) : Ev d mX6_turned (49, [some (vR (some (16, 0, a0))), some (vI x1), some (vI x2), some (vI x3), some (vI x4), some (vI x5)], [], (I, S)) r :=
  s_iincp [some (vR (some (16, 0, a0))), some (vI x1), some (vI x2), some (vI x3), some (vI x4), some (vI (x5 + 1))] rfl rfl ho1 rfl <|
  s_goto 6 rfl rfl k
theorem b_X6_turned_55 {d : Nat} {I : Nat → Nat → Int} {S : PS} {a0 : Nat} {x1 x2 x3 x4 x5 : Int} : Ev d mX6_turned (55, [some (vR (some (16, 0, a0))), some (vI x1), some (vI x2), some (vI x3), some (vI x4), some (vI x5)], [], (I, S)) (.inl (some (vI x4)), (I, S)) :=
  s_iload rfl rfl rfl <|
  s_ret rfl rfl
theorem b_X6_fenceCount_0 {d : Nat} {r : PO × PM} {I : Nat → Nat → Int} {S : PS} {x0 : Int} (kt : 2 < x0 → Ev d mX6_fenceCount (9, [some (vI x0)], [], (I, S)) r) (kf : x0 ≤ 2 → Ev d mX6_fenceCount (5, [some (vI x0)], [], (I, S)) r) : Ev d mX6_fenceCount (0, [some (vI x0)], [], (I, S)) r :=
  s_iload_n rfl rfl rfl <|
  s_iconst rfl rfl <|
  s_icmp_gt 9 rfl rfl kt kf
theorem b_X6_fenceCount_5 {d : Nat} {r : PO × PM} {I : Nat → Nat → Int} {S : PS} {x0 : Int} (k : Ev d mX6_fenceCount (19, [some (vI x0)], [vI 1], (I, S)) r) : Ev d mX6_fenceCount (5, [some (vI x0)], [], (I, S)) r :=
  s_iconst rfl rfl <|
  s_goto 19 rfl rfl k
theorem b_X6_fenceCount_9 {d : Nat} {r : PO × PM} {I : Nat → Nat → Int} {S : PS} {x0 : Int} (kt : 4 < x0 → Ev d mX6_fenceCount (18, [some (vI x0)], [], (I, S)) r) (kf : x0 ≤ 4 → Ev d mX6_fenceCount (14, [some (vI x0)], [], (I, S)) r) : Ev d mX6_fenceCount (9, [some (vI x0)], [], (I, S)) r :=
  s_iload_n rfl rfl rfl <|
  s_iconst rfl rfl <|
  s_icmp_gt 18 rfl rfl kt kf
theorem b_X6_fenceCount_14 {d : Nat} {r : PO × PM} {I : Nat → Nat → Int} {S : PS} {x0 : Int} (k : Ev d mX6_fenceCount (19, [some (vI x0)], [vI 2], (I, S)) r) : Ev d mX6_fenceCount (14, [some (vI x0)], [], (I, S)) r :=
  s_iconst rfl rfl <|
  s_goto 19 rfl rfl k
theorem b_X6_fenceCount_18 {d : Nat} {r : PO × PM} {I : Nat → Nat → Int} {S : PS} {x0 : Int} (k : Ev d mX6_fenceCount (19, [some (vI x0)], [vI 5], (I, S)) r) : Ev d mX6_fenceCount (18, [some (vI x0)], [], (I, S)) r :=
  s_iconst rfl rfl <|
  k
theorem b_X6_fenceCount_19 {d : Nat} {I : Nat → Nat → Int} {S : PS} {x0 xs0 : Int} : Ev d mX6_fenceCount (19, [some (vI x0)], [vI xs0], (I, S)) (.inl (some (vI xs0)), (I, S)) :=
  s_ret rfl rfl
theorem b_X6_leadsBelow_0 {d : Nat} {r : PO × PM} {I : Nat → Nat → Int} {S : PS} {a0 n2 a2 : Nat} {x1 x3 : Int} (k : Ev d mX6_leadsBelow (3, [some (vR (some (16, 0, a0))), some (vI x1), some (vR (some (1, n2, a2))), some (vI x3), some (vI 0)], [], (I, S)) r) : Ev d mX6_leadsBelow (0, [some (vR (some (16, 0, a0))), some (vI x1), some (vR (some (1, n2, a2))), some (vI x3), none], [], (I, S)) r :=
  s_iconst rfl rfl <|
  s_istore [some (vR (some (16, 0, a0))), some (vI x1), some (vR (some (1, n2, a2))), some (vI x3), some (vI 0)] rfl rfl <|
  k
theorem b_X6_leadsBelow_3 {d : Nat} {r : PO × PM} {I : Nat → Nat → Int} {S : PS} {a0 n2 a2 : Nat} {x1 x3 x4 : Int} (kt : 3 ≤ x4 → Ev d mX6_leadsBelow (32, [some (vR (some (16, 0, a0))), some (vI x1), some (vR (some (1, n2, a2))), some (vI x3), some (vI x4)], [], (I, S)) r) (kf : x4 < 3 → Ev d mX6_leadsBelow (9, [some (vR (some (16, 0, a0))), some (vI x1), some (vR (some (1, n2, a2))), some (vI x3), some (vI x4)], [], (I, S)) r) : Ev d mX6_leadsBelow (3, [some (vR (some (16, 0, a0))), some (vI x1), some (vR (some (1, n2, a2))), some (vI x3), some (vI x4)], [], (I, S)) r :=
  s_iload rfl rfl rfl <|
  s_iconst rfl rfl <|
  s_icmp_ge 32 rfl rfl kt kf
theorem b_X6_leadsBelow_9 {d : Nat} {r : PO × PM} {I : Nat → Nat → Int} {S : PS} {a0 n2 a2 : Nat} {x1 x3 x4 z : Int} {I1 : Nat → Nat → Int} {S1 : PS} (ho1 : -2147483648 ≤ x1 * 3 ∧ x1 * 3 ≤ 2147483647) (ho2 : -2147483648 ≤ (x1 * 3) + x4 ∧ (x1 * 3) + x4 ≤ 2147483647) (c : Ca d mX6_leadsBelowBy [vR (some (16, 0, a0)), vI ((x1 * 3) + x4), vR (some (1, n2, a2)), vI x3] (I, S) (.inl (some (vI z))) (I1, S1)) (k : Ev (d + 1) mX6_leadsBelow (21, [some (vR (some (16, 0, a0))), some (vI x1), some (vR (some (1, n2, a2))), some (vI x3), some (vI x4)], [vI z], (I1, S1)) r) : Ev (d + 1) mX6_leadsBelow (9, [some (vR (some (16, 0, a0))), some (vI x1), some (vR (some (1, n2, a2))), some (vI x3), some (vI x4)], [], (I, S)) r :=
  s_aload_n rfl rfl rfl <|
  s_iload_n rfl rfl rfl <|
  s_iconst rfl rfl <|
  s_imulp rfl ho1 <|
  s_iload rfl rfl rfl <|
  s_iaddp rfl ho2 <|
  s_aload_n rfl rfl rfl <|
  s_iload_n rfl rfl rfl <|
  s_cvI rfl rfl rfl rfl rfl c k
theorem b_X6_leadsBelow_21 {d : Nat} {r : PO × PM} {I : Nat → Nat → Int} {S : PS} {a0 n2 a2 : Nat} {x1 x3 x4 xs0 : Int} (kt : xs0 = 0 → Ev d mX6_leadsBelow (26, [some (vR (some (16, 0, a0))), some (vI x1), some (vR (some (1, n2, a2))), some (vI x3), some (vI x4)], [], (I, S)) r) (kf : xs0 ≠ 0 → Ev d mX6_leadsBelow (24, [some (vR (some (16, 0, a0))), some (vI x1), some (vR (some (1, n2, a2))), some (vI x3), some (vI x4)], [], (I, S)) r) : Ev d mX6_leadsBelow (21, [some (vR (some (16, 0, a0))), some (vI x1), some (vR (some (1, n2, a2))), some (vI x3), some (vI x4)], [vI xs0], (I, S)) r :=
  s_if_eq 26 rfl rfl kt kf
theorem b_X6_leadsBelow_24 {d : Nat} {I : Nat → Nat → Int} {S : PS} {a0 n2 a2 : Nat} {x1 x3 x4 : Int} : Ev d mX6_leadsBelow (24, [some (vR (some (16, 0, a0))), some (vI x1), some (vR (some (1, n2, a2))), some (vI x3), some (vI x4)], [], (I, S)) (.inl (some (vI 1)), (I, S)) :=
  s_iconst rfl rfl <|
  s_ret rfl rfl
theorem b_X6_leadsBelow_26 {d : Nat} {r : PO × PM} {I : Nat → Nat → Int} {S : PS} {a0 n2 a2 : Nat} {x1 x3 x4 : Int} (ho1 : -2147483648 ≤ x4 + 1 ∧ x4 + 1 ≤ 2147483647) (k : Ev d mX6_leadsBelow (3, [some (vR (some (16, 0, a0))), some (vI x1), some (vR (some (1, n2, a2))), some (vI x3), some (vI (x4 + 1))], [], (I, S)) r) : Ev d mX6_leadsBelow (26, [some (vR (some (16, 0, a0))), some (vI x1), some (vR (some (1, n2, a2))), some (vI x3), some (vI x4)], [], (I, S)) r :=
  s_iincp [some (vR (some (16, 0, a0))), some (vI x1), some (vR (some (1, n2, a2))), some (vI x3), some (vI (x4 + 1))] rfl rfl ho1 rfl <|
  s_goto 3 rfl rfl k
theorem b_X6_leadsBelow_32 {d : Nat} {I : Nat → Nat → Int} {S : PS} {a0 n2 a2 : Nat} {x1 x3 x4 : Int} : Ev d mX6_leadsBelow (32, [some (vR (some (16, 0, a0))), some (vI x1), some (vR (some (1, n2, a2))), some (vI x3), some (vI x4)], [], (I, S)) (.inl (some (vI 0)), (I, S)) :=
  s_iconst rfl rfl <|
  s_ret rfl rfl
theorem b_X6_leadsBelowBy_0 {d : Nat} {r : PO × PM} {I : Nat → Nat → Int} {S : PS} {a0 n2 a2 p1 q1 : Nat} {x1 x3 : Int} (hr1 : S.1 a0 4 = some (1, q1, p1)) (hi2 : 0 ≤ x1 ∧ x1 < (q1 : Nat)) (kt : 2 < I p1 x1.toNat → Ev d mX6_leadsBelowBy (20, [some (vR (some (16, 0, a0))), some (vI x1), some (vR (some (1, n2, a2))), some (vI x3), some (vI (I p1 x1.toNat)), none, none, none, none, none, none], [], (I, S)) r) (kf : I p1 x1.toNat ≤ 2 → Ev d mX6_leadsBelowBy (14, [some (vR (some (16, 0, a0))), some (vI x1), some (vR (some (1, n2, a2))), some (vI x3), some (vI (I p1 x1.toNat)), none, none, none, none, none, none], [], (I, S)) r) : Ev d mX6_leadsBelowBy (0, [some (vR (some (16, 0, a0))), some (vI x1), some (vR (some (1, n2, a2))), some (vI x3), none, none, none, none, none, none, none], [], (I, S)) r :=
  s_aload_n rfl rfl rfl <|
  s_getR rfl rfl rfl hr1 <|
  s_iload_n rfl rfl rfl <|
  s_bald rfl rfl hi2 <|
  s_istore [some (vR (some (16, 0, a0))), some (vI x1), some (vR (some (1, n2, a2))), some (vI x3), some (vI (I p1 x1.toNat)), none, none, none, none, none, none] rfl rfl <|
  s_iload rfl rfl rfl <|
  s_iconst rfl rfl <|
  s_icmp_gt 20 rfl rfl kt kf
theorem b_X6_leadsBelowBy_14 {d : Nat} {r : PO × PM} {I : Nat → Nat → Int} {S : PS} {a0 n2 a2 : Nat} {x1 x3 x4 : Int} (k : Ev d mX6_leadsBelowBy (35, [some (vR (some (16, 0, a0))), some (vI x1), some (vR (some (1, n2, a2))), some (vI x3), some (vI x4), none, none, none, none, none, none], [vR (some (5, 1, 1))], (I, S)) r) : Ev d mX6_leadsBelowBy (14, [some (vR (some (16, 0, a0))), some (vI x1), some (vR (some (1, n2, a2))), some (vI x3), some (vI x4), none, none, none, none, none, none], [], (I, S)) r :=
  s_getstatic rfl rfl <|
  s_goto 35 rfl rfl k
theorem b_X6_leadsBelowBy_20 {d : Nat} {r : PO × PM} {I : Nat → Nat → Int} {S : PS} {a0 n2 a2 : Nat} {x1 x3 x4 : Int} (kt : 4 < x4 → Ev d mX6_leadsBelowBy (32, [some (vR (some (16, 0, a0))), some (vI x1), some (vR (some (1, n2, a2))), some (vI x3), some (vI x4), none, none, none, none, none, none], [], (I, S)) r) (kf : x4 ≤ 4 → Ev d mX6_leadsBelowBy (26, [some (vR (some (16, 0, a0))), some (vI x1), some (vR (some (1, n2, a2))), some (vI x3), some (vI x4), none, none, none, none, none, none], [], (I, S)) r) : Ev d mX6_leadsBelowBy (20, [some (vR (some (16, 0, a0))), some (vI x1), some (vR (some (1, n2, a2))), some (vI x3), some (vI x4), none, none, none, none, none, none], [], (I, S)) r :=
  s_iload rfl rfl rfl <|
  s_iconst rfl rfl <|
  s_icmp_gt 32 rfl rfl kt kf
theorem b_X6_leadsBelowBy_26 {d : Nat} {r : PO × PM} {I : Nat → Nat → Int} {S : PS} {a0 n2 a2 : Nat} {x1 x3 x4 : Int} (k : Ev d mX6_leadsBelowBy (35, [some (vR (some (16, 0, a0))), some (vI x1), some (vR (some (1, n2, a2))), some (vI x3), some (vI x4), none, none, none, none, none, none], [vR (some (5, 4, 2))], (I, S)) r) : Ev d mX6_leadsBelowBy (26, [some (vR (some (16, 0, a0))), some (vI x1), some (vR (some (1, n2, a2))), some (vI x3), some (vI x4), none, none, none, none, none, none], [], (I, S)) r :=
  s_getstatic rfl rfl <|
  s_goto 35 rfl rfl k
theorem b_X6_leadsBelowBy_32 {d : Nat} {r : PO × PM} {I : Nat → Nat → Int} {S : PS} {a0 n2 a2 : Nat} {x1 x3 x4 : Int} (k : Ev d mX6_leadsBelowBy (35, [some (vR (some (16, 0, a0))), some (vI x1), some (vR (some (1, n2, a2))), some (vI x3), some (vI x4), none, none, none, none, none, none], [vR (some (5, 20, 3))], (I, S)) r) : Ev d mX6_leadsBelowBy (32, [some (vR (some (16, 0, a0))), some (vI x1), some (vR (some (1, n2, a2))), some (vI x3), some (vI x4), none, none, none, none, none, none], [], (I, S)) r :=
  s_getstatic rfl rfl <|
  k
theorem b_X6_leadsBelowBy_35 {d : Nat} {r : PO × PM} {I : Nat → Nat → Int} {S : PS} {a0 n2 a2 ns0 as0 : Nat} {x1 x3 x4 : Int} (kt : 2 < x4 → Ev d mX6_leadsBelowBy (47, [some (vR (some (16, 0, a0))), some (vI x1), some (vR (some (1, n2, a2))), some (vI x3), some (vI x4), some (vR (some (5, ns0, as0))), none, none, none, none, none], [], (I, S)) r) (kf : x4 ≤ 2 → Ev d mX6_leadsBelowBy (43, [some (vR (some (16, 0, a0))), some (vI x1), some (vR (some (1, n2, a2))), some (vI x3), some (vI x4), some (vR (some (5, ns0, as0))), none, none, none, none, none], [], (I, S)) r) : Ev d mX6_leadsBelowBy (35, [some (vR (some (16, 0, a0))), some (vI x1), some (vR (some (1, n2, a2))), some (vI x3), some (vI x4), none, none, none, none, none, none], [vR (some (5, ns0, as0))], (I, S)) r :=
  s_astore [some (vR (some (16, 0, a0))), some (vI x1), some (vR (some (1, n2, a2))), some (vI x3), some (vI x4), some (vR (some (5, ns0, as0))), none, none, none, none, none] rfl rfl <|
  s_iload rfl rfl rfl <|
  s_iconst rfl rfl <|
  s_icmp_gt 47 rfl rfl kt kf
theorem b_X6_leadsBelowBy_43 {d : Nat} {r : PO × PM} {I : Nat → Nat → Int} {S : PS} {a0 n2 a2 n5 a5 : Nat} {x1 x3 x4 : Int} (k : Ev d mX6_leadsBelowBy (58, [some (vR (some (16, 0, a0))), some (vI x1), some (vR (some (1, n2, a2))), some (vI x3), some (vI x4), some (vR (some (5, n5, a5))), none, none, none, none, none], [vI 1], (I, S)) r) : Ev d mX6_leadsBelowBy (43, [some (vR (some (16, 0, a0))), some (vI x1), some (vR (some (1, n2, a2))), some (vI x3), some (vI x4), some (vR (some (5, n5, a5))), none, none, none, none, none], [], (I, S)) r :=
  s_iconst rfl rfl <|
  s_goto 58 rfl rfl k
theorem b_X6_leadsBelowBy_47 {d : Nat} {r : PO × PM} {I : Nat → Nat → Int} {S : PS} {a0 n2 a2 n5 a5 : Nat} {x1 x3 x4 : Int} (kt : 4 < x4 → Ev d mX6_leadsBelowBy (57, [some (vR (some (16, 0, a0))), some (vI x1), some (vR (some (1, n2, a2))), some (vI x3), some (vI x4), some (vR (some (5, n5, a5))), none, none, none, none, none], [], (I, S)) r) (kf : x4 ≤ 4 → Ev d mX6_leadsBelowBy (53, [some (vR (some (16, 0, a0))), some (vI x1), some (vR (some (1, n2, a2))), some (vI x3), some (vI x4), some (vR (some (5, n5, a5))), none, none, none, none, none], [], (I, S)) r) : Ev d mX6_leadsBelowBy (47, [some (vR (some (16, 0, a0))), some (vI x1), some (vR (some (1, n2, a2))), some (vI x3), some (vI x4), some (vR (some (5, n5, a5))), none, none, none, none, none], [], (I, S)) r :=
  s_iload rfl rfl rfl <|
  s_iconst rfl rfl <|
  s_icmp_gt 57 rfl rfl kt kf
theorem b_X6_leadsBelowBy_53 {d : Nat} {r : PO × PM} {I : Nat → Nat → Int} {S : PS} {a0 n2 a2 n5 a5 : Nat} {x1 x3 x4 : Int} (k : Ev d mX6_leadsBelowBy (58, [some (vR (some (16, 0, a0))), some (vI x1), some (vR (some (1, n2, a2))), some (vI x3), some (vI x4), some (vR (some (5, n5, a5))), none, none, none, none, none], [vI 2], (I, S)) r) : Ev d mX6_leadsBelowBy (53, [some (vR (some (16, 0, a0))), some (vI x1), some (vR (some (1, n2, a2))), some (vI x3), some (vI x4), some (vR (some (5, n5, a5))), none, none, none, none, none], [], (I, S)) r :=
  s_iconst rfl rfl <|
  s_goto 58 rfl rfl k
theorem b_X6_leadsBelowBy_57 {d : Nat} {r : PO × PM} {I : Nat → Nat → Int} {S : PS} {a0 n2 a2 n5 a5 : Nat} {x1 x3 x4 : Int} (k : Ev d mX6_leadsBelowBy (58, [some (vR (some (16, 0, a0))), some (vI x1), some (vR (some (1, n2, a2))), some (vI x3), some (vI x4), some (vR (some (5, n5, a5))), none, none, none, none, none], [vI 4], (I, S)) r) : Ev d mX6_leadsBelowBy (57, [some (vR (some (16, 0, a0))), some (vI x1), some (vR (some (1, n2, a2))), some (vI x3), some (vI x4), some (vR (some (5, n5, a5))), none, none, none, none, none], [], (I, S)) r :=
  s_iconst rfl rfl <|
  k
theorem b_X6_leadsBelowBy_58 {d : Nat} {r : PO × PM} {I : Nat → Nat → Int} {S : PS} {a0 n2 a2 n5 a5 : Nat} {x1 x3 x4 xs0 : Int} (k : Ev d mX6_leadsBelowBy (63, [some (vR (some (16, 0, a0))), some (vI x1), some (vR (some (1, n2, a2))), some (vI x3), some (vI x4), some (vR (some (5, n5, a5))), some (vI xs0), some (vI 0), none, none, none], [], (I, S)) r) : Ev d mX6_leadsBelowBy (58, [some (vR (some (16, 0, a0))), some (vI x1), some (vR (some (1, n2, a2))), some (vI x3), some (vI x4), some (vR (some (5, n5, a5))), none, none, none, none, none], [vI xs0], (I, S)) r :=
  s_istore [some (vR (some (16, 0, a0))), some (vI x1), some (vR (some (1, n2, a2))), some (vI x3), some (vI x4), some (vR (some (5, n5, a5))), some (vI xs0), none, none, none, none] rfl rfl <|
  s_iconst rfl rfl <|
  s_istore [some (vR (some (16, 0, a0))), some (vI x1), some (vR (some (1, n2, a2))), some (vI x3), some (vI x4), some (vR (some (5, n5, a5))), some (vI xs0), some (vI 0), none, none, none] rfl rfl <|
  k
theorem b_X6_leadsBelowBy_63 {d : Nat} {r : PO × PM} {I : Nat → Nat → Int} {S : PS} {a0 n2 a2 n5 a5 : Nat} {x1 x3 x4 x6 x7 : Int} (ho1 : -2147483648 ≤ x7 + x6 ∧ x7 + x6 ≤ 2147483647) (hn2 : n5 ≤ 100000) (kt : (n5 : Int) < x7 + x6 → Ev d mX6_leadsBelowBy (163, [some (vR (some (16, 0, a0))), some (vI x1), some (vR (some (1, n2, a2))), some (vI x3), some (vI x4), some (vR (some (5, n5, a5))), some (vI x6), some (vI x7), none, none, none], [], (I, S)) r) (kf : x7 + x6 ≤ (n5 : Int) → Ev d mX6_leadsBelowBy (74, [some (vR (some (16, 0, a0))), some (vI x1), some (vR (some (1, n2, a2))), some (vI x3), some (vI x4), some (vR (some (5, n5, a5))), some (vI x6), some (vI x7), none, none, none], [], (I, S)) r) : Ev d mX6_leadsBelowBy (63, [some (vR (some (16, 0, a0))), some (vI x1), some (vR (some (1, n2, a2))), some (vI x3), some (vI x4), some (vR (some (5, n5, a5))), some (vI x6), some (vI x7), none, none, none], [], (I, S)) r :=
  s_iload rfl rfl rfl <|
  s_iload rfl rfl rfl <|
  s_iaddp rfl ho1 <|
  s_aload rfl rfl rfl <|
  s_alen rfl rfl hn2 <|
  s_icmp_gt 163 rfl rfl kt kf
theorem b_X6_leadsBelowBy_74 {d : Nat} {r : PO × PM} {I : Nat → Nat → Int} {S : PS} {a0 n2 a2 n5 a5 : Nat} {x1 x3 x4 x6 x7 : Int} (k : Ev d mX6_leadsBelowBy (81, [some (vR (some (16, 0, a0))), some (vI x1), some (vR (some (1, n2, a2))), some (vI x3), some (vI x4), some (vR (some (5, n5, a5))), some (vI x6), some (vI x7), some (vI 0), some (vI x7), none], [], (I, S)) r) : Ev d mX6_leadsBelowBy (74, [some (vR (some (16, 0, a0))), some (vI x1), some (vR (some (1, n2, a2))), some (vI x3), some (vI x4), some (vR (some (5, n5, a5))), some (vI x6), some (vI x7), none, none, none], [], (I, S)) r :=
  s_iconst rfl rfl <|
  s_istore [some (vR (some (16, 0, a0))), some (vI x1), some (vR (some (1, n2, a2))), some (vI x3), some (vI x4), some (vR (some (5, n5, a5))), some (vI x6), some (vI x7), some (vI 0), none, none] rfl rfl <|
  s_iload rfl rfl rfl <|
  s_istore [some (vR (some (16, 0, a0))), some (vI x1), some (vR (some (1, n2, a2))), some (vI x3), some (vI x4), some (vR (some (5, n5, a5))), some (vI x6), some (vI x7), some (vI 0), some (vI x7), none] rfl rfl <|
  k
theorem b_X6_leadsBelowBy_81 {d : Nat} {r : PO × PM} {I : Nat → Nat → Int} {S : PS} {a0 n2 a2 n5 a5 : Nat} {x1 x3 x4 x6 x7 x8 x9 : Int} (ho1 : -2147483648 ≤ x7 + x6 ∧ x7 + x6 ≤ 2147483647) (kt : x7 + x6 ≤ x9 → Ev d mX6_leadsBelowBy (146, [some (vR (some (16, 0, a0))), some (vI x1), some (vR (some (1, n2, a2))), some (vI x3), some (vI x4), some (vR (some (5, n5, a5))), some (vI x6), some (vI x7), some (vI x8), some (vI x9), none], [], (I, S)) r) (kf : x9 < x7 + x6 → Ev d mX6_leadsBelowBy (91, [some (vR (some (16, 0, a0))), some (vI x1), some (vR (some (1, n2, a2))), some (vI x3), some (vI x4), some (vR (some (5, n5, a5))), some (vI x6), some (vI x7), some (vI x8), some (vI x9), none], [], (I, S)) r) : Ev d mX6_leadsBelowBy (81, [some (vR (some (16, 0, a0))), some (vI x1), some (vR (some (1, n2, a2))), some (vI x3), some (vI x4), some (vR (some (5, n5, a5))), some (vI x6), some (vI x7), some (vI x8), some (vI x9), none], [], (I, S)) r :=
  s_iload rfl rfl rfl <|
  s_iload rfl rfl rfl <|
  s_iload rfl rfl rfl <|
  s_iaddp rfl ho1 <|
  s_icmp_ge 146 rfl rfl kt kf
theorem b_X6_leadsBelowBy_91 {d : Nat} {r : PO × PM} {I : Nat → Nat → Int} {S : PS} {a0 n2 a2 n5 a5 : Nat} {x1 x3 x4 x6 x7 x8 x9 : Int} (kt : x8 ≠ 0 → Ev d mX6_leadsBelowBy (146, [some (vR (some (16, 0, a0))), some (vI x1), some (vR (some (1, n2, a2))), some (vI x3), some (vI x4), some (vR (some (5, n5, a5))), some (vI x6), some (vI x7), some (vI x8), some (vI x9), none], [], (I, S)) r) (kf : x8 = 0 → Ev d mX6_leadsBelowBy (96, [some (vR (some (16, 0, a0))), some (vI x1), some (vR (some (1, n2, a2))), some (vI x3), some (vI x4), some (vR (some (5, n5, a5))), some (vI x6), some (vI x7), some (vI x8), some (vI x9), none], [], (I, S)) r) : Ev d mX6_leadsBelowBy (91, [some (vR (some (16, 0, a0))), some (vI x1), some (vR (some (1, n2, a2))), some (vI x3), some (vI x4), some (vR (some (5, n5, a5))), some (vI x6), some (vI x7), some (vI x8), some (vI x9), none], [], (I, S)) r :=
  s_iload rfl rfl rfl <|
  s_if_ne 146 rfl rfl kt kf
theorem b_X6_leadsBelowBy_96 {d : Nat} {r : PO × PM} {I : Nat → Nat → Int} {S : PS} {a0 n2 a2 n5 a5 p1 q1 : Nat} {x1 x3 x4 x6 x7 x8 x9 : Int} (hr1 : S.1 a0 5 = some (1, q1, p1)) (ho2 : -2147483648 ≤ x1 * 16 ∧ x1 * 16 ≤ 2147483647) (hi3 : 0 ≤ x9 ∧ x9 < (n5 : Nat)) (ho4 : -2147483648 ≤ (x1 * 16) + (I a5 x9.toNat) ∧ (x1 * 16) + (I a5 x9.toNat) ≤ 2147483647) (hi5 : 0 ≤ (x1 * 16) + (I a5 x9.toNat) ∧ (x1 * 16) + (I a5 x9.toNat) < (q1 : Nat)) (kt : I p1 ((x1 * 16) + (I a5 x9.toNat)).toNat < 0 → Ev d mX6_leadsBelowBy (137, [some (vR (some (16, 0, a0))), some (vI x1), some (vR (some (1, n2, a2))), some (vI x3), some (vI x4), some (vR (some (5, n5, a5))), some (vI x6), some (vI x7), some (vI x8), some (vI x9), some (vI (I p1 ((x1 * 16) + (I a5 x9.toNat)).toNat))], [], (I, S)) r) (kf : 0 ≤ I p1 ((x1 * 16) + (I a5 x9.toNat)).toNat → Ev d mX6_leadsBelowBy (118, [some (vR (some (16, 0, a0))), some (vI x1), some (vR (some (1, n2, a2))), some (vI x3), some (vI x4), some (vR (some (5, n5, a5))), some (vI x6), some (vI x7), some (vI x8), some (vI x9), some (vI (I p1 ((x1 * 16) + (I a5 x9.toNat)).toNat))], [], (I, S)) r) : Ev d mX6_leadsBelowBy (96, [some (vR (some (16, 0, a0))), some (vI x1), some (vR (some (1, n2, a2))), some (vI x3), some (vI x4), some (vR (some (5, n5, a5))), some (vI x6), some (vI x7), some (vI x8), some (vI x9), none], [], (I, S)) r :=
  s_aload_n rfl rfl rfl <|
  s_getR rfl rfl rfl hr1 <|
  s_iload_n rfl rfl rfl <|
  s_bipush rfl rfl <|
  s_imulp rfl ho2 <|
  s_aload rfl rfl rfl <|
  s_iload rfl rfl rfl <|
  s_iald rfl rfl hi3 <|
  s_iaddp rfl ho4 <|
  s_bald rfl rfl hi5 <|
  s_istore [some (vR (some (16, 0, a0))), some (vI x1), some (vR (some (1, n2, a2))), some (vI x3), some (vI x4), some (vR (some (5, n5, a5))), some (vI x6), some (vI x7), some (vI x8), some (vI x9), some (vI (I p1 ((x1 * 16) + (I a5 x9.toNat)).toNat))] rfl rfl <|
  s_iload rfl rfl rfl <|
  s_if_lt 137 rfl rfl kt kf
theorem b_X6_leadsBelowBy_118 {d : Nat} {r : PO × PM} {I : Nat → Nat → Int} {S : PS} {a0 n2 a2 n5 a5 : Nat} {x1 x3 x4 x6 x7 x8 x9 x10 : Int} (hi1 : 0 ≤ x10 ∧ x10 < (n2 : Nat)) (kt : I a2 x10.toNat < 0 → Ev d mX6_leadsBelowBy (137, [some (vR (some (16, 0, a0))), some (vI x1), some (vR (some (1, n2, a2))), some (vI x3), some (vI x4), some (vR (some (5, n5, a5))), some (vI x6), some (vI x7), some (vI x8), some (vI x9), some (vI x10)], [], (I, S)) r) (kf : 0 ≤ I a2 x10.toNat → Ev d mX6_leadsBelowBy (125, [some (vR (some (16, 0, a0))), some (vI x1), some (vR (some (1, n2, a2))), some (vI x3), some (vI x4), some (vR (some (5, n5, a5))), some (vI x6), some (vI x7), some (vI x8), some (vI x9), some (vI x10)], [], (I, S)) r) : Ev d mX6_leadsBelowBy (118, [some (vR (some (16, 0, a0))), some (vI x1), some (vR (some (1, n2, a2))), some (vI x3), some (vI x4), some (vR (some (5, n5, a5))), some (vI x6), some (vI x7), some (vI x8), some (vI x9), some (vI x10)], [], (I, S)) r :=
  s_aload_n rfl rfl rfl <|
  s_iload rfl rfl rfl <|
  s_bald rfl rfl hi1 <|
  s_if_lt 137 rfl rfl kt kf
theorem b_X6_leadsBelowBy_125 {d : Nat} {r : PO × PM} {I : Nat → Nat → Int} {S : PS} {a0 n2 a2 n5 a5 : Nat} {x1 x3 x4 x6 x7 x8 x9 x10 : Int} (hi1 : 0 ≤ x10 ∧ x10 < (n2 : Nat)) (kt : x3 ≤ I a2 x10.toNat → Ev d mX6_leadsBelowBy (137, [some (vR (some (16, 0, a0))), some (vI x1), some (vR (some (1, n2, a2))), some (vI x3), some (vI x4), some (vR (some (5, n5, a5))), some (vI x6), some (vI x7), some (vI x8), some (vI x9), some (vI x10)], [], (I, S)) r) (kf : I a2 x10.toNat < x3 → Ev d mX6_leadsBelowBy (133, [some (vR (some (16, 0, a0))), some (vI x1), some (vR (some (1, n2, a2))), some (vI x3), some (vI x4), some (vR (some (5, n5, a5))), some (vI x6), some (vI x7), some (vI x8), some (vI x9), some (vI x10)], [], (I, S)) r) : Ev d mX6_leadsBelowBy (125, [some (vR (some (16, 0, a0))), some (vI x1), some (vR (some (1, n2, a2))), some (vI x3), some (vI x4), some (vR (some (5, n5, a5))), some (vI x6), some (vI x7), some (vI x8), some (vI x9), some (vI x10)], [], (I, S)) r :=
  s_aload_n rfl rfl rfl <|
  s_iload rfl rfl rfl <|
  s_bald rfl rfl hi1 <|
  s_iload_n rfl rfl rfl <|
  s_icmp_ge 137 rfl rfl kt kf
theorem b_X6_leadsBelowBy_133 {d : Nat} {r : PO × PM} {I : Nat → Nat → Int} {S : PS} {a0 n2 a2 n5 a5 : Nat} {x1 x3 x4 x6 x7 x8 x9 x10 : Int} (k : Ev d mX6_leadsBelowBy (138, [some (vR (some (16, 0, a0))), some (vI x1), some (vR (some (1, n2, a2))), some (vI x3), some (vI x4), some (vR (some (5, n5, a5))), some (vI x6), some (vI x7), some (vI x8), some (vI x9), some (vI x10)], [vI 1], (I, S)) r) : Ev d mX6_leadsBelowBy (133, [some (vR (some (16, 0, a0))), some (vI x1), some (vR (some (1, n2, a2))), some (vI x3), some (vI x4), some (vR (some (5, n5, a5))), some (vI x6), some (vI x7), some (vI x8), some (vI x9), some (vI x10)], [], (I, S)) r :=
  s_iconst rfl rfl <|
  s_goto 138 rfl rfl k
theorem b_X6_leadsBelowBy_137 {d : Nat} {r : PO × PM} {I : Nat → Nat → Int} {S : PS} {a0 n2 a2 n5 a5 : Nat} {x1 x3 x4 x6 x7 x8 x9 x10 : Int} (k : Ev d mX6_leadsBelowBy (138, [some (vR (some (16, 0, a0))), some (vI x1), some (vR (some (1, n2, a2))), some (vI x3), some (vI x4), some (vR (some (5, n5, a5))), some (vI x6), some (vI x7), some (vI x8), some (vI x9), some (vI x10)], [vI 0], (I, S)) r) : Ev d mX6_leadsBelowBy (137, [some (vR (some (16, 0, a0))), some (vI x1), some (vR (some (1, n2, a2))), some (vI x3), some (vI x4), some (vR (some (5, n5, a5))), some (vI x6), some (vI x7), some (vI x8), some (vI x9), some (vI x10)], [], (I, S)) r :=
  s_iconst rfl rfl <|
  k
theorem b_X6_leadsBelowBy_138 {d : Nat} {r : PO × PM} {I : Nat → Nat → Int} {S : PS} {a0 n2 a2 n5 a5 : Nat} {x1 x3 x4 x6 x7 x8 x9 x10 xs0 : Int} (ho1 : -2147483648 ≤ x9 + 1 ∧ x9 + 1 ≤ 2147483647) (k : Ev d mX6_leadsBelowBy (81, [some (vR (some (16, 0, a0))), some (vI x1), some (vR (some (1, n2, a2))), some (vI x3), some (vI x4), some (vR (some (5, n5, a5))), some (vI x6), some (vI x7), some (vI xs0), some (vI (x9 + 1)), none], [], (I, S)) r) : Ev d mX6_leadsBelowBy (138, [some (vR (some (16, 0, a0))), some (vI x1), some (vR (some (1, n2, a2))), some (vI x3), some (vI x4), some (vR (some (5, n5, a5))), some (vI x6), some (vI x7), some (vI x8), some (vI x9), some (vI x10)], [vI xs0], (I, S)) r :=
  s_istore [some (vR (some (16, 0, a0))), some (vI x1), some (vR (some (1, n2, a2))), some (vI x3), some (vI x4), some (vR (some (5, n5, a5))), some (vI x6), some (vI x7), some (vI xs0), some (vI x9), some (vI x10)] rfl rfl <|
  s_iincp [some (vR (some (16, 0, a0))), some (vI x1), some (vR (some (1, n2, a2))), some (vI x3), some (vI x4), some (vR (some (5, n5, a5))), some (vI x6), some (vI x7), some (vI xs0), some (vI (x9 + 1)), some (vI x10)] rfl rfl ho1 rfl <|
  s_goto 81 rfl rfl (ev_forget [false, false, false, false, false, false, false, false, false, false, true] rfl k)
theorem b_X6_leadsBelowBy_146 {d : Nat} {r : PO × PM} {I : Nat → Nat → Int} {S : PS} {a0 n2 a2 n5 a5 : Nat} {x1 x3 x4 x6 x7 x8 x9 : Int} (kt : x8 ≠ 0 → Ev d mX6_leadsBelowBy (153, [some (vR (some (16, 0, a0))), some (vI x1), some (vR (some (1, n2, a2))), some (vI x3), some (vI x4), some (vR (some (5, n5, a5))), some (vI x6), some (vI x7), some (vI x8), some (vI x9), none], [], (I, S)) r) (kf : x8 = 0 → Ev d mX6_leadsBelowBy (151, [some (vR (some (16, 0, a0))), some (vI x1), some (vR (some (1, n2, a2))), some (vI x3), some (vI x4), some (vR (some (5, n5, a5))), some (vI x6), some (vI x7), some (vI x8), some (vI x9), none], [], (I, S)) r) : Ev d mX6_leadsBelowBy (146, [some (vR (some (16, 0, a0))), some (vI x1), some (vR (some (1, n2, a2))), some (vI x3), some (vI x4), some (vR (some (5, n5, a5))), some (vI x6), some (vI x7), some (vI x8), some (vI x9), none], [], (I, S)) r :=
  s_iload rfl rfl rfl <|
  s_if_ne 153 rfl rfl kt kf
theorem b_X6_leadsBelowBy_151 {d : Nat} {I : Nat → Nat → Int} {S : PS} {a0 n2 a2 n5 a5 : Nat} {x1 x3 x4 x6 x7 x8 x9 : Int} : Ev d mX6_leadsBelowBy (151, [some (vR (some (16, 0, a0))), some (vI x1), some (vR (some (1, n2, a2))), some (vI x3), some (vI x4), some (vR (some (5, n5, a5))), some (vI x6), some (vI x7), some (vI x8), some (vI x9), none], [], (I, S)) (.inl (some (vI 0)), (I, S)) :=
  s_iconst rfl rfl <|
  s_ret rfl rfl
theorem b_X6_leadsBelowBy_153 {d : Nat} {r : PO × PM} {I : Nat → Nat → Int} {S : PS} {a0 n2 a2 n5 a5 : Nat} {x1 x3 x4 x6 x7 x8 x9 : Int} (ho1 : -2147483648 ≤ x7 + x6 ∧ x7 + x6 ≤ 2147483647) (k : Ev d mX6_leadsBelowBy (63, [some (vR (some (16, 0, a0))), some (vI x1), some (vR (some (1, n2, a2))), some (vI x3), some (vI x4), some (vR (some (5, n5, a5))), some (vI x6), some (vI (x7 + x6)), none, none, none], [], (I, S)) r) : Ev d mX6_leadsBelowBy (153, [some (vR (some (16, 0, a0))), some (vI x1), some (vR (some (1, n2, a2))), some (vI x3), some (vI x4), some (vR (some (5, n5, a5))), some (vI x6), some (vI x7), some (vI x8), some (vI x9), none], [], (I, S)) r :=
  s_iload rfl rfl rfl <|
  s_iload rfl rfl rfl <|
  s_iaddp rfl ho1 <|
  s_istore [some (vR (some (16, 0, a0))), some (vI x1), some (vR (some (1, n2, a2))), some (vI x3), some (vI x4), some (vR (some (5, n5, a5))), some (vI x6), some (vI (x7 + x6)), some (vI x8), some (vI x9), none] rfl rfl <|
  s_goto 63 rfl rfl (ev_forget [false, false, false, false, false, false, false, false, true, true, false] rfl k)
theorem b_X6_leadsBelowBy_163 {d : Nat} {I : Nat → Nat → Int} {S : PS} {a0 n2 a2 n5 a5 : Nat} {x1 x3 x4 x6 x7 : Int} : Ev d mX6_leadsBelowBy (163, [some (vR (some (16, 0, a0))), some (vI x1), some (vR (some (1, n2, a2))), some (vI x3), some (vI x4), some (vR (some (5, n5, a5))), some (vI x6), some (vI x7), none, none, none], [], (I, S)) (.inl (some (vI 1)), (I, S)) :=
  s_iconst rfl rfl <|
  s_ret rfl rfl
theorem b_X7_init_0 {d : Nat} {h : PM} {a0 : Nat} : Ev d mX7_init (0, [some (vR (some (17, 0, a0)))], [], h) (.inl none, m_sr (m_new (m_si h a0 0 0) 0 48 48) a0 1 (some (0, 48, (m_sz (m_si h a0 0 0))))) :=
  s_aload_n rfl rfl rfl <|
  s_obj rfl rfl rfl <|
  s_aload_n rfl rfl rfl <|
  s_iconst rfl rfl <|
  s_putI rfl rfl rfl <|
  s_aload_n rfl rfl rfl <|
  s_bipush rfl rfl <|
  s_newa (n := 48) rfl (Or.inl ⟨rfl, rfl⟩) (by decide) <|
  s_putR rfl rfl rfl <|
  s_vret rfl rfl
theorem b_X7_ahead_0 {d : Nat} {I : Nat → Nat → Int} {S : PS} {x0 : Int} (ho1 : -2147483648 ≤ 6 - x0 ∧ 6 - x0 ≤ 2147483647) (ho2 : -2147483648 ≤ 10 * (6 - x0) ∧ 10 * (6 - x0) ≤ 2147483647) : Ev d mX7_ahead (0, [some (vI x0)], [], (I, S)) (.inl (some (vI (10 * (6 - x0)))), (I, S)) :=
  s_bipush rfl rfl <|
  s_bipush rfl rfl <|
  s_iload_n rfl rfl rfl <|
  s_isubp rfl ho1 <|
  s_imulp rfl ho2 <|
  s_ret rfl rfl
theorem b_X7_begin_0 {d : Nat} {r : PO × PM} {I : Nat → Nat → Int} {S : PS} {a0 : Nat} {x1 : Int} (k : Ev d mX7_begin (2, [some (vR (some (17, 0, a0))), some (vI x1), some (vI 1)], [], (I, S)) r) : Ev d mX7_begin (0, [some (vR (some (17, 0, a0))), some (vI x1), none], [], (I, S)) r :=
  s_iconst rfl rfl <|
  s_istore_n [some (vR (some (17, 0, a0))), some (vI x1), some (vI 1)] rfl rfl <|
  k
theorem b_X7_begin_2 {d : Nat} {r : PO × PM} {I : Nat → Nat → Int} {S : PS} {a0 : Nat} {x1 x2 : Int} (kt : 8 ≤ x2 → Ev d mX7_begin (20, [some (vR (some (17, 0, a0))), some (vI x1), some (vI x2)], [], (I, S)) r) (kf : x2 < 8 → Ev d mX7_begin (8, [some (vR (some (17, 0, a0))), some (vI x1), some (vI x2)], [], (I, S)) r) : Ev d mX7_begin (2, [some (vR (some (17, 0, a0))), some (vI x1), some (vI x2)], [], (I, S)) r :=
  s_iload_n rfl rfl rfl <|
  s_bipush rfl rfl <|
  s_icmp_ge 20 rfl rfl kt kf
theorem b_X7_begin_8 {d : Nat} {r : PO × PM} {I : Nat → Nat → Int} {S : PS} {a0 : Nat} {x1 x2 : Int} {I1 : Nat → Nat → Int} {S1 : PS} (c : Ca d mX7_tell [vR (some (17, 0, a0)), vI x2, vI 0] (I, S) (.inl none) (I1, S1)) (k : Ev (d + 1) mX7_begin (14, [some (vR (some (17, 0, a0))), some (vI x1), some (vI x2)], [], (I1, S1)) r) : Ev (d + 1) mX7_begin (8, [some (vR (some (17, 0, a0))), some (vI x1), some (vI x2)], [], (I, S)) r :=
  s_aload_n rfl rfl rfl <|
  s_iload_n rfl rfl rfl <|
  s_iconst rfl rfl <|
  s_cvV rfl rfl rfl rfl rfl c k
theorem b_X7_begin_14 {d : Nat} {r : PO × PM} {I : Nat → Nat → Int} {S : PS} {a0 : Nat} {x1 x2 : Int} (ho1 : -2147483648 ≤ x2 + 1 ∧ x2 + 1 ≤ 2147483647) (k : Ev d mX7_begin (2, [some (vR (some (17, 0, a0))), some (vI x1), some (vI (x2 + 1))], [], (I, S)) r) : Ev d mX7_begin (14, [some (vR (some (17, 0, a0))), some (vI x1), some (vI x2)], [], (I, S)) r :=
  s_iincp [some (vR (some (17, 0, a0))), some (vI x1), some (vI (x2 + 1))] rfl rfl ho1 rfl <|
  s_goto 2 rfl rfl k
theorem b_X7_begin_20 {d : Nat} {r : PO × PM} {I : Nat → Nat → Int} {S : PS} {a0 : Nat} {x1 x2 : Int} {I1 : Nat → Nat → Int} {S1 : PS} (c : Ca d mX7_tell [vR (some (17, 0, a0)), vI 0, vI x1] (I, S) (.inl none) (I1, S1)) (k : Ev (d + 1) mX7_begin (26, [some (vR (some (17, 0, a0))), some (vI x1), some (vI x2)], [], (I1, S1)) r) : Ev (d + 1) mX7_begin (20, [some (vR (some (17, 0, a0))), some (vI x1), some (vI x2)], [], (I, S)) r :=
  s_aload_n rfl rfl rfl <|
  s_iconst rfl rfl <|
  s_iload_n rfl rfl rfl <|
  s_cvV rfl rfl rfl rfl rfl c k
theorem b_X7_begin_26 {d : Nat} {I : Nat → Nat → Int} {S : PS} {a0 : Nat} {x1 x2 : Int} : Ev d mX7_begin (26, [some (vR (some (17, 0, a0))), some (vI x1), some (vI x2)], [], (I, S)) (.inl none, (I, S)) :=
  s_vret rfl rfl
theorem b_X7_keepRule_0 {d : Nat} {I : Nat → Nat → Int} {S : PS} {a0 : Nat} (ho1 : -2147483648 ≤ I a0 0 + 1 ∧ I a0 0 + 1 ≤ 2147483647) : Ev d mX7_keepRule (0, [some (vR (some (17, 0, a0)))], [], (I, S)) (.inl (some (vI 0)), ((up2 I a0 0 (I a0 0 + 1)), S)) :=
  s_aload_n rfl rfl rfl <|
  s_dup rfl rfl <|
  s_getI rfl rfl rfl <|
  s_iconst rfl rfl <|
  s_iaddp rfl ho1 <|
  s_putI rfl rfl rfl <|
  s_iconst rfl rfl <|
  s_ret rfl rfl
theorem b_X7_tell_0 {d : Nat} {I : Nat → Nat → Int} {S : PS} {a0 p1 q1 : Nat} {x1 x2 : Int} (hr1 : S.1 a0 1 = some (0, q1, p1)) (ho2 : -2147483648 ≤ (I a0 0) * 8 ∧ (I a0 0) * 8 ≤ 2147483647) (ho3 : -2147483648 ≤ ((I a0 0) * 8) + x1 ∧ ((I a0 0) * 8) + x1 ≤ 2147483647) (hi4 : 0 ≤ ((I a0 0) * 8) + x1 ∧ ((I a0 0) * 8) + x1 < (q1 : Nat)) : Ev d mX7_tell (0, [some (vR (some (17, 0, a0))), some (vI x1), some (vI x2)], [], (I, S)) (.inl none, ((up2 I p1 ((((I a0 0) * 8) + x1).toNat) x2), S)) :=
  s_aload_n rfl rfl rfl <|
  s_getR rfl rfl rfl hr1 <|
  s_aload_n rfl rfl rfl <|
  s_getI rfl rfl rfl <|
  s_bipush rfl rfl <|
  s_imulp rfl ho2 <|
  s_iload_n rfl rfl rfl <|
  s_iaddp rfl ho3 <|
  s_iload_n rfl rfl rfl <|
  s_iast rfl hi4 <|
  s_vret rfl rfl
theorem b_X7_sent_0 {d : Nat} {r : PO × PM} {I : Nat → Nat → Int} {S : PS} {a0 n5 a5 : Nat} {x1 x2 x3 x4 : Int} (k : Ev d mX7_sent (6, [some (vR (some (17, 0, a0))), some (vI x1), some (vI x2), some (vI x3), some (vI x4), some (vR (some (0, n5, a5))), some (vI 0), some (vI 0)], [], (I, S)) r) : Ev d mX7_sent (0, [some (vR (some (17, 0, a0))), some (vI x1), some (vI x2), some (vI x3), some (vI x4), some (vR (some (0, n5, a5))), none, none], [], (I, S)) r :=
  s_iconst rfl rfl <|
  s_istore [some (vR (some (17, 0, a0))), some (vI x1), some (vI x2), some (vI x3), some (vI x4), some (vR (some (0, n5, a5))), some (vI 0), none] rfl rfl <|
  s_iconst rfl rfl <|
  s_istore [some (vR (some (17, 0, a0))), some (vI x1), some (vI x2), some (vI x3), some (vI x4), some (vR (some (0, n5, a5))), some (vI 0), some (vI 0)] rfl rfl <|
  k
theorem b_X7_sent_6 {d : Nat} {r : PO × PM} {I : Nat → Nat → Int} {S : PS} {a0 n5 a5 : Nat} {x1 x2 x3 x4 x6 x7 : Int} (kt : I a0 0 ≤ x7 → Ev d mX7_sent (45, [some (vR (some (17, 0, a0))), some (vI x1), some (vI x2), some (vI x3), some (vI x4), some (vR (some (0, n5, a5))), some (vI x6), some (vI x7)], [], (I, S)) r) (kf : x7 < I a0 0 → Ev d mX7_sent (15, [some (vR (some (17, 0, a0))), some (vI x1), some (vI x2), some (vI x3), some (vI x4), some (vR (some (0, n5, a5))), some (vI x6), some (vI x7)], [], (I, S)) r) : Ev d mX7_sent (6, [some (vR (some (17, 0, a0))), some (vI x1), some (vI x2), some (vI x3), some (vI x4), some (vR (some (0, n5, a5))), some (vI x6), some (vI x7)], [], (I, S)) r :=
  s_iload rfl rfl rfl <|
  s_aload_n rfl rfl rfl <|
  s_getI rfl rfl rfl <|
  s_icmp_ge 45 rfl rfl kt kf
theorem b_X7_sent_15 {d : Nat} {r : PO × PM} {I : Nat → Nat → Int} {S : PS} {a0 n5 a5 : Nat} {x1 x2 x3 x4 x6 x7 z : Int} {I1 : Nat → Nat → Int} {S1 : PS} (c : Ca d mX7_applies [vR (some (17, 0, a0)), vI x7, vI x1, vI x2, vI x3, vI x4] (I, S) (.inl (some (vI z))) (I1, S1)) (k : Ev (d + 1) mX7_sent (26, [some (vR (some (17, 0, a0))), some (vI x1), some (vI x2), some (vI x3), some (vI x4), some (vR (some (0, n5, a5))), some (vI x6), some (vI x7)], [vI z], (I1, S1)) r) : Ev (d + 1) mX7_sent (15, [some (vR (some (17, 0, a0))), some (vI x1), some (vI x2), some (vI x3), some (vI x4), some (vR (some (0, n5, a5))), some (vI x6), some (vI x7)], [], (I, S)) r :=
  s_aload_n rfl rfl rfl <|
  s_iload rfl rfl rfl <|
  s_iload_n rfl rfl rfl <|
  s_iload_n rfl rfl rfl <|
  s_iload_n rfl rfl rfl <|
  s_iload rfl rfl rfl <|
  s_cvI rfl rfl rfl rfl rfl c k
theorem b_X7_sent_26 {d : Nat} {r : PO × PM} {I : Nat → Nat → Int} {S : PS} {a0 n5 a5 : Nat} {x1 x2 x3 x4 x6 x7 xs0 : Int} (kt : xs0 = 0 → Ev d mX7_sent (39, [some (vR (some (17, 0, a0))), some (vI x1), some (vI x2), some (vI x3), some (vI x4), some (vR (some (0, n5, a5))), some (vI x6), some (vI x7)], [], (I, S)) r) (kf : xs0 ≠ 0 → Ev d mX7_sent (29, [some (vR (some (17, 0, a0))), some (vI x1), some (vI x2), some (vI x3), some (vI x4), some (vR (some (0, n5, a5))), some (vI x6), some (vI x7)], [], (I, S)) r) : Ev d mX7_sent (26, [some (vR (some (17, 0, a0))), some (vI x1), some (vI x2), some (vI x3), some (vI x4), some (vR (some (0, n5, a5))), some (vI x6), some (vI x7)], [vI xs0], (I, S)) r :=
  s_if_eq 39 rfl rfl kt kf
theorem b_X7_sent_29 {d : Nat} {r : PO × PM} {I : Nat → Nat → Int} {S : PS} {a0 n5 a5 : Nat} {x1 x2 x3 x4 x6 x7 : Int} (hi1 : 0 ≤ x7 ∧ x7 < (n5 : Nat)) (ho2 : -2147483648 ≤ x6 + (I a5 x7.toNat) ∧ x6 + (I a5 x7.toNat) ≤ 2147483647) (k : Ev d mX7_sent (39, [some (vR (some (17, 0, a0))), some (vI x1), some (vI x2), some (vI x3), some (vI x4), some (vR (some (0, n5, a5))), some (vI (x6 + (I a5 x7.toNat))), some (vI x7)], [], (I, S)) r) : Ev d mX7_sent (29, [some (vR (some (17, 0, a0))), some (vI x1), some (vI x2), some (vI x3), some (vI x4), some (vR (some (0, n5, a5))), some (vI x6), some (vI x7)], [], (I, S)) r :=
  s_iload rfl rfl rfl <|
  s_aload rfl rfl rfl <|
  s_iload rfl rfl rfl <|
  s_iald rfl rfl hi1 <|
  s_iaddp rfl ho2 <|
  s_istore [some (vR (some (17, 0, a0))), some (vI x1), some (vI x2), some (vI x3), some (vI x4), some (vR (some (0, n5, a5))), some (vI (x6 + (I a5 x7.toNat))), some (vI x7)] rfl rfl <|
  k
theorem b_X7_sent_39 {d : Nat} {r : PO × PM} {I : Nat → Nat → Int} {S : PS} {a0 n5 a5 : Nat} {x1 x2 x3 x4 x6 x7 : Int} (ho1 : -2147483648 ≤ x7 + 1 ∧ x7 + 1 ≤ 2147483647) (k : Ev d mX7_sent (6, [some (vR (some (17, 0, a0))), some (vI x1), some (vI x2), some (vI x3), some (vI x4), some (vR (some (0, n5, a5))), some (vI x6), some (vI (x7 + 1))], [], (I, S)) r) : Ev d mX7_sent (39, [some (vR (some (17, 0, a0))), some (vI x1), some (vI x2), some (vI x3), some (vI x4), some (vR (some (0, n5, a5))), some (vI x6), some (vI x7)], [], (I, S)) r :=
  s_iincp [some (vR (some (17, 0, a0))), some (vI x1), some (vI x2), some (vI x3), some (vI x4), some (vR (some (0, n5, a5))), some (vI x6), some (vI (x7 + 1))] rfl rfl ho1 rfl <|
  s_goto 6 rfl rfl k
theorem b_X7_sent_45 {d : Nat} {I : Nat → Nat → Int} {S : PS} {a0 n5 a5 : Nat} {x1 x2 x3 x4 x6 x7 : Int} : Ev d mX7_sent (45, [some (vR (some (17, 0, a0))), some (vI x1), some (vI x2), some (vI x3), some (vI x4), some (vR (some (0, n5, a5))), some (vI x6), some (vI x7)], [], (I, S)) (.inl (some (vI x6)), (I, S)) :=
  s_iload rfl rfl rfl <|
  s_ret rfl rfl
theorem b_X7_behind_0 {d : Nat} {r : PO × PM} {I : Nat → Nat → Int} {S : PS} {a0 n2 a2 n3 a3 : Nat} {x1 z : Int} {I1 : Nat → Nat → Int} {S1 : PS} (c : Ca d mX7_ahead [vI x1] (I, S) (.inl (some (vI z))) (I1, S1)) (k : Ev (d + 1) mX7_behind (4, [some (vR (some (17, 0, a0))), some (vI x1), some (vR (some (0, n2, a2))), some (vR (some (0, n3, a3))), none, none], [vI z], (I1, S1)) r) : Ev (d + 1) mX7_behind (0, [some (vR (some (17, 0, a0))), some (vI x1), some (vR (some (0, n2, a2))), some (vR (some (0, n3, a3))), none, none], [], (I, S)) r :=
  s_iload_n rfl rfl rfl <|
  s_csI rfl rfl rfl rfl rfl rfl c k
theorem b_X7_behind_4 {d : Nat} {r : PO × PM} {I : Nat → Nat → Int} {S : PS} {a0 n2 a2 n3 a3 : Nat} {x1 xs0 : Int} (k : Ev d mX7_behind (9, [some (vR (some (17, 0, a0))), some (vI x1), some (vR (some (0, n2, a2))), some (vR (some (0, n3, a3))), some (vI xs0), some (vI 0)], [], (I, S)) r) : Ev d mX7_behind (4, [some (vR (some (17, 0, a0))), some (vI x1), some (vR (some (0, n2, a2))), some (vR (some (0, n3, a3))), none, none], [vI xs0], (I, S)) r :=
  s_istore [some (vR (some (17, 0, a0))), some (vI x1), some (vR (some (0, n2, a2))), some (vR (some (0, n3, a3))), some (vI xs0), none] rfl rfl <|
  s_iconst rfl rfl <|
  s_istore [some (vR (some (17, 0, a0))), some (vI x1), some (vR (some (0, n2, a2))), some (vR (some (0, n3, a3))), some (vI xs0), some (vI 0)] rfl rfl <|
  k
theorem b_X7_behind_9 {d : Nat} {r : PO × PM} {I : Nat → Nat → Int} {S : PS} {a0 n2 a2 n3 a3 : Nat} {x1 x4 x5 : Int} (kt : I a0 0 ≤ x5 → Ev d mX7_behind (42, [some (vR (some (17, 0, a0))), some (vI x1), some (vR (some (0, n2, a2))), some (vR (some (0, n3, a3))), some (vI x4), some (vI x5)], [], (I, S)) r) (kf : x5 < I a0 0 → Ev d mX7_behind (18, [some (vR (some (17, 0, a0))), some (vI x1), some (vR (some (0, n2, a2))), some (vR (some (0, n3, a3))), some (vI x4), some (vI x5)], [], (I, S)) r) : Ev d mX7_behind (9, [some (vR (some (17, 0, a0))), some (vI x1), some (vR (some (0, n2, a2))), some (vR (some (0, n3, a3))), some (vI x4), some (vI x5)], [], (I, S)) r :=
  s_iload rfl rfl rfl <|
  s_aload_n rfl rfl rfl <|
  s_getI rfl rfl rfl <|
  s_icmp_ge 42 rfl rfl kt kf
theorem b_X7_behind_18 {d : Nat} {r : PO × PM} {I : Nat → Nat → Int} {S : PS} {a0 n2 a2 n3 a3 : Nat} {x1 x4 x5 z : Int} {I1 : Nat → Nat → Int} {S1 : PS} (hi1 : 0 ≤ x5 ∧ x5 < (n3 : Nat)) (c : Ca d mX7_net [vR (some (17, 0, a0)), vI x5, vI x1, vR (some (0, n2, a2))] (I, S) (.inl (some (vI z))) (I1, S1)) (k : Ev (d + 1) mX7_behind (32, [some (vR (some (17, 0, a0))), some (vI x1), some (vR (some (0, n2, a2))), some (vR (some (0, n3, a3))), some (vI x4), some (vI x5)], [vI z, vI (I a3 x5.toNat), vI x4], (I1, S1)) r) : Ev (d + 1) mX7_behind (18, [some (vR (some (17, 0, a0))), some (vI x1), some (vR (some (0, n2, a2))), some (vR (some (0, n3, a3))), some (vI x4), some (vI x5)], [], (I, S)) r :=
  s_iload rfl rfl rfl <|
  s_aload_n rfl rfl rfl <|
  s_iload rfl rfl rfl <|
  s_iald rfl rfl hi1 <|
  s_aload_n rfl rfl rfl <|
  s_iload rfl rfl rfl <|
  s_iload_n rfl rfl rfl <|
  s_aload_n rfl rfl rfl <|
  s_cvI rfl rfl rfl rfl rfl c k
theorem b_X7_behind_32 {d : Nat} {r : PO × PM} {I : Nat → Nat → Int} {S : PS} {a0 n2 a2 n3 a3 : Nat} {x1 x4 x5 xs0 xs1 xs2 : Int} (ho1 : -2147483648 ≤ xs1 * xs2 ∧ xs1 * xs2 ≤ 2147483647) (ho2 : -2147483648 ≤ xs0 + (xs1 * xs2) ∧ xs0 + (xs1 * xs2) ≤ 2147483647) (ho3 : -2147483648 ≤ x5 + 1 ∧ x5 + 1 ≤ 2147483647) (k : Ev d mX7_behind (9, [some (vR (some (17, 0, a0))), some (vI x1), some (vR (some (0, n2, a2))), some (vR (some (0, n3, a3))), some (vI (xs0 + (xs1 * xs2))), some (vI (x5 + 1))], [], (I, S)) r) : Ev d mX7_behind (32, [some (vR (some (17, 0, a0))), some (vI x1), some (vR (some (0, n2, a2))), some (vR (some (0, n3, a3))), some (vI x4), some (vI x5)], [vI xs2, vI xs1, vI xs0], (I, S)) r :=
  s_imulp rfl ho1 <|
  s_iaddp rfl ho2 <|
  s_istore [some (vR (some (17, 0, a0))), some (vI x1), some (vR (some (0, n2, a2))), some (vR (some (0, n3, a3))), some (vI (xs0 + (xs1 * xs2))), some (vI x5)] rfl rfl <|
  s_iincp [some (vR (some (17, 0, a0))), some (vI x1), some (vR (some (0, n2, a2))), some (vR (some (0, n3, a3))), some (vI (xs0 + (xs1 * xs2))), some (vI (x5 + 1))] rfl rfl ho3 rfl <|
  s_goto 9 rfl rfl k
theorem b_X7_behind_42 {d : Nat} {I : Nat → Nat → Int} {S : PS} {a0 n2 a2 n3 a3 : Nat} {x1 x4 x5 : Int} : Ev d mX7_behind (42, [some (vR (some (17, 0, a0))), some (vI x1), some (vR (some (0, n2, a2))), some (vR (some (0, n3, a3))), some (vI x4), some (vI x5)], [], (I, S)) (.inl (some (vI x4)), (I, S)) :=
  s_iload rfl rfl rfl <|
  s_ret rfl rfl
theorem b_X7_net_0 {d : Nat} {r : PO × PM} {I : Nat → Nat → Int} {S : PS} {a0 n3 a3 : Nat} {x1 x2 : Int} (k : Ev d mX7_net (6, [some (vR (some (17, 0, a0))), some (vI x1), some (vI x2), some (vR (some (0, n3, a3))), some (vI 0), some (vI 0), none, none], [], (I, S)) r) : Ev d mX7_net (0, [some (vR (some (17, 0, a0))), some (vI x1), some (vI x2), some (vR (some (0, n3, a3))), none, none, none, none], [], (I, S)) r :=
  s_iconst rfl rfl <|
  s_istore [some (vR (some (17, 0, a0))), some (vI x1), some (vI x2), some (vR (some (0, n3, a3))), some (vI 0), none, none, none] rfl rfl <|
  s_iconst rfl rfl <|
  s_istore [some (vR (some (17, 0, a0))), some (vI x1), some (vI x2), some (vR (some (0, n3, a3))), some (vI 0), some (vI 0), none, none] rfl rfl <|
  k
theorem b_X7_net_6 {d : Nat} {r : PO × PM} {I : Nat → Nat → Int} {S : PS} {a0 n3 a3 : Nat} {x1 x2 x4 x5 : Int} (kt : x2 ≤ x5 → Ev d mX7_net (97, [some (vR (some (17, 0, a0))), some (vI x1), some (vI x2), some (vR (some (0, n3, a3))), some (vI x4), some (vI x5), none, none], [], (I, S)) r) (kf : x5 < x2 → Ev d mX7_net (12, [some (vR (some (17, 0, a0))), some (vI x1), some (vI x2), some (vR (some (0, n3, a3))), some (vI x4), some (vI x5), none, none], [], (I, S)) r) : Ev d mX7_net (6, [some (vR (some (17, 0, a0))), some (vI x1), some (vI x2), some (vR (some (0, n3, a3))), some (vI x4), some (vI x5), none, none], [], (I, S)) r :=
  s_iload rfl rfl rfl <|
  s_iload_n rfl rfl rfl <|
  s_icmp_ge 97 rfl rfl kt kf
theorem b_X7_net_12 {d : Nat} {r : PO × PM} {I : Nat → Nat → Int} {S : PS} {a0 n3 a3 : Nat} {x1 x2 x4 x5 : Int} (kt : x5 ≤ 0 → Ev d mX7_net (25, [some (vR (some (17, 0, a0))), some (vI x1), some (vI x2), some (vR (some (0, n3, a3))), some (vI x4), some (vI x5), none, none], [vR (some (0, n3, a3))], (I, S)) r) (kf : 0 < x5 → Ev d mX7_net (18, [some (vR (some (17, 0, a0))), some (vI x1), some (vI x2), some (vR (some (0, n3, a3))), some (vI x4), some (vI x5), none, none], [vR (some (0, n3, a3))], (I, S)) r) : Ev d mX7_net (12, [some (vR (some (17, 0, a0))), some (vI x1), some (vI x2), some (vR (some (0, n3, a3))), some (vI x4), some (vI x5), none, none], [], (I, S)) r :=
  s_aload_n rfl rfl rfl <|
  s_iload rfl rfl rfl <|
  s_if_le 25 rfl rfl kt kf
theorem b_X7_net_18 {d : Nat} {r : PO × PM} {I : Nat → Nat → Int} {S : PS} {a0 n3 a3 ns0 as0 : Nat} {x1 x2 x4 x5 : Int} (ho1 : -2147483648 ≤ x5 - 1 ∧ x5 - 1 ≤ 2147483647) (k : Ev d mX7_net (28, [some (vR (some (17, 0, a0))), some (vI x1), some (vI x2), some (vR (some (0, n3, a3))), some (vI x4), some (vI x5), none, none], [vI (x5 - 1), vR (some (0, ns0, as0))], (I, S)) r) : Ev d mX7_net (18, [some (vR (some (17, 0, a0))), some (vI x1), some (vI x2), some (vR (some (0, n3, a3))), some (vI x4), some (vI x5), none, none], [vR (some (0, ns0, as0))], (I, S)) r :=
  s_iload rfl rfl rfl <|
  s_iconst rfl rfl <|
  s_isubp rfl ho1 <|
  s_goto 28 rfl rfl k
theorem b_X7_net_25 {d : Nat} {r : PO × PM} {I : Nat → Nat → Int} {S : PS} {a0 n3 a3 ns0 as0 : Nat} {x1 x2 x4 x5 : Int} (ho1 : -2147483648 ≤ x2 - 1 ∧ x2 - 1 ≤ 2147483647) (k : Ev d mX7_net (28, [some (vR (some (17, 0, a0))), some (vI x1), some (vI x2), some (vR (some (0, n3, a3))), some (vI x4), some (vI x5), none, none], [vI (x2 - 1), vR (some (0, ns0, as0))], (I, S)) r) : Ev d mX7_net (25, [some (vR (some (17, 0, a0))), some (vI x1), some (vI x2), some (vR (some (0, n3, a3))), some (vI x4), some (vI x5), none, none], [vR (some (0, ns0, as0))], (I, S)) r :=
  s_iload_n rfl rfl rfl <|
  s_iconst rfl rfl <|
  s_isubp rfl ho1 <|
  k
theorem b_X7_net_28 {d : Nat} {r : PO × PM} {I : Nat → Nat → Int} {S : PS} {a0 n3 a3 ns0 as0 : Nat} {x1 x2 x4 x5 xs1 : Int} (hi1 : 0 ≤ xs1 ∧ xs1 < (ns0 : Nat)) (ho2 : -2147483648 ≤ x5 + 1 ∧ x5 + 1 ≤ 2147483647) (kt : x2 ≤ x5 + 1 → Ev d mX7_net (47, [some (vR (some (17, 0, a0))), some (vI x1), some (vI x2), some (vR (some (0, n3, a3))), some (vI x4), some (vI x5), some (vI (I as0 xs1.toNat)), none], [vR (some (0, n3, a3))], (I, S)) r) (kf : x5 + 1 < x2 → Ev d mX7_net (40, [some (vR (some (17, 0, a0))), some (vI x1), some (vI x2), some (vR (some (0, n3, a3))), some (vI x4), some (vI x5), some (vI (I as0 xs1.toNat)), none], [vR (some (0, n3, a3))], (I, S)) r) : Ev d mX7_net (28, [some (vR (some (17, 0, a0))), some (vI x1), some (vI x2), some (vR (some (0, n3, a3))), some (vI x4), some (vI x5), none, none], [vI xs1, vR (some (0, ns0, as0))], (I, S)) r :=
  s_iald rfl rfl hi1 <|
  s_istore [some (vR (some (17, 0, a0))), some (vI x1), some (vI x2), some (vR (some (0, n3, a3))), some (vI x4), some (vI x5), some (vI (I as0 xs1.toNat)), none] rfl rfl <|
  s_aload_n rfl rfl rfl <|
  s_iload rfl rfl rfl <|
  s_iconst rfl rfl <|
  s_iaddp rfl ho2 <|
  s_iload_n rfl rfl rfl <|
  s_icmp_ge 47 rfl rfl kt kf
theorem b_X7_net_40 {d : Nat} {r : PO × PM} {I : Nat → Nat → Int} {S : PS} {a0 n3 a3 ns0 as0 : Nat} {x1 x2 x4 x5 x6 : Int} (ho1 : -2147483648 ≤ x5 + 1 ∧ x5 + 1 ≤ 2147483647) (k : Ev d mX7_net (48, [some (vR (some (17, 0, a0))), some (vI x1), some (vI x2), some (vR (some (0, n3, a3))), some (vI x4), some (vI x5), some (vI x6), none], [vI (x5 + 1), vR (some (0, ns0, as0))], (I, S)) r) : Ev d mX7_net (40, [some (vR (some (17, 0, a0))), some (vI x1), some (vI x2), some (vR (some (0, n3, a3))), some (vI x4), some (vI x5), some (vI x6), none], [vR (some (0, ns0, as0))], (I, S)) r :=
  s_iload rfl rfl rfl <|
  s_iconst rfl rfl <|
  s_iaddp rfl ho1 <|
  s_goto 48 rfl rfl k
theorem b_X7_net_47 {d : Nat} {r : PO × PM} {I : Nat → Nat → Int} {S : PS} {a0 n3 a3 ns0 as0 : Nat} {x1 x2 x4 x5 x6 : Int} (k : Ev d mX7_net (48, [some (vR (some (17, 0, a0))), some (vI x1), some (vI x2), some (vR (some (0, n3, a3))), some (vI x4), some (vI x5), some (vI x6), none], [vI 0, vR (some (0, ns0, as0))], (I, S)) r) : Ev d mX7_net (47, [some (vR (some (17, 0, a0))), some (vI x1), some (vI x2), some (vR (some (0, n3, a3))), some (vI x4), some (vI x5), some (vI x6), none], [vR (some (0, ns0, as0))], (I, S)) r :=
  s_iconst rfl rfl <|
  k
theorem b_X7_net_48 {d : Nat} {r : PO × PM} {I : Nat → Nat → Int} {S : PS} {a0 n3 a3 ns0 as0 : Nat} {x1 x2 x4 x5 x6 xs1 z : Int} {I1 : Nat → Nat → Int} {S1 : PS} (hi1 : 0 ≤ xs1 ∧ xs1 < (ns0 : Nat)) (hi2 : 0 ≤ x5 ∧ x5 < (n3 : Nat)) (c : Ca d mX7_applies [vR (some (17, 0, a0)), vI x1, vI (I a3 x5.toNat), vI x2, vI x6, vI (I as0 xs1.toNat)] (I, S) (.inl (some (vI z))) (I1, S1)) (k : Ev (d + 1) mX7_net (65, [some (vR (some (17, 0, a0))), some (vI x1), some (vI x2), some (vR (some (0, n3, a3))), some (vI x4), some (vI x5), some (vI x6), some (vI (I as0 xs1.toNat))], [vI z], (I1, S1)) r) : Ev (d + 1) mX7_net (48, [some (vR (some (17, 0, a0))), some (vI x1), some (vI x2), some (vR (some (0, n3, a3))), some (vI x4), some (vI x5), some (vI x6), none], [vI xs1, vR (some (0, ns0, as0))], (I, S)) r :=
  s_iald rfl rfl hi1 <|
  s_istore [some (vR (some (17, 0, a0))), some (vI x1), some (vI x2), some (vR (some (0, n3, a3))), some (vI x4), some (vI x5), some (vI x6), some (vI (I as0 xs1.toNat))] rfl rfl <|
  s_aload_n rfl rfl rfl <|
  s_iload_n rfl rfl rfl <|
  s_aload_n rfl rfl rfl <|
  s_iload rfl rfl rfl <|
  s_iald rfl rfl hi2 <|
  s_iload_n rfl rfl rfl <|
  s_iload rfl rfl rfl <|
  s_iload rfl rfl rfl <|
  s_cvI rfl rfl rfl rfl rfl c k
theorem b_X7_net_65 {d : Nat} {r : PO × PM} {I : Nat → Nat → Int} {S : PS} {a0 n3 a3 : Nat} {x1 x2 x4 x5 x6 x7 xs0 : Int} (kt : xs0 = 0 → Ev d mX7_net (71, [some (vR (some (17, 0, a0))), some (vI x1), some (vI x2), some (vR (some (0, n3, a3))), some (vI x4), some (vI x5), some (vI x6), some (vI x7)], [], (I, S)) r) (kf : xs0 ≠ 0 → Ev d mX7_net (68, [some (vR (some (17, 0, a0))), some (vI x1), some (vI x2), some (vR (some (0, n3, a3))), some (vI x4), some (vI x5), some (vI x6), some (vI x7)], [], (I, S)) r) : Ev d mX7_net (65, [some (vR (some (17, 0, a0))), some (vI x1), some (vI x2), some (vR (some (0, n3, a3))), some (vI x4), some (vI x5), some (vI x6), some (vI x7)], [vI xs0], (I, S)) r :=
  s_if_eq 71 rfl rfl kt kf
theorem b_X7_net_68 {d : Nat} {r : PO × PM} {I : Nat → Nat → Int} {S : PS} {a0 n3 a3 : Nat} {x1 x2 x4 x5 x6 x7 : Int} (ho1 : -2147483648 ≤ x4 + 1 ∧ x4 + 1 ≤ 2147483647) (k : Ev d mX7_net (71, [some (vR (some (17, 0, a0))), some (vI x1), some (vI x2), some (vR (some (0, n3, a3))), some (vI (x4 + 1)), some (vI x5), some (vI x6), some (vI x7)], [], (I, S)) r) : Ev d mX7_net (68, [some (vR (some (17, 0, a0))), some (vI x1), some (vI x2), some (vR (some (0, n3, a3))), some (vI x4), some (vI x5), some (vI x6), some (vI x7)], [], (I, S)) r :=
  s_iincp [some (vR (some (17, 0, a0))), some (vI x1), some (vI x2), some (vR (some (0, n3, a3))), some (vI (x4 + 1)), some (vI x5), some (vI x6), some (vI x7)] rfl rfl ho1 rfl <|
  k
theorem b_X7_net_71 {d : Nat} {r : PO × PM} {I : Nat → Nat → Int} {S : PS} {a0 n3 a3 : Nat} {x1 x2 x4 x5 x6 x7 z : Int} {I1 : Nat → Nat → Int} {S1 : PS} (hi1 : 0 ≤ x5 ∧ x5 < (n3 : Nat)) (c : Ca d mX7_applies [vR (some (17, 0, a0)), vI x1, vI x2, vI (I a3 x5.toNat), vI x6, vI x7] (I, S) (.inl (some (vI z))) (I1, S1)) (k : Ev (d + 1) mX7_net (85, [some (vR (some (17, 0, a0))), some (vI x1), some (vI x2), some (vR (some (0, n3, a3))), some (vI x4), some (vI x5), some (vI x6), some (vI x7)], [vI z], (I1, S1)) r) : Ev (d + 1) mX7_net (71, [some (vR (some (17, 0, a0))), some (vI x1), some (vI x2), some (vR (some (0, n3, a3))), some (vI x4), some (vI x5), some (vI x6), some (vI x7)], [], (I, S)) r :=
  s_aload_n rfl rfl rfl <|
  s_iload_n rfl rfl rfl <|
  s_iload_n rfl rfl rfl <|
  s_aload_n rfl rfl rfl <|
  s_iload rfl rfl rfl <|
  s_iald rfl rfl hi1 <|
  s_iload rfl rfl rfl <|
  s_iload rfl rfl rfl <|
  s_cvI rfl rfl rfl rfl rfl c k
theorem b_X7_net_85 {d : Nat} {r : PO × PM} {I : Nat → Nat → Int} {S : PS} {a0 n3 a3 : Nat} {x1 x2 x4 x5 x6 x7 xs0 : Int} (kt : xs0 = 0 → Ev d mX7_net (91, [some (vR (some (17, 0, a0))), some (vI x1), some (vI x2), some (vR (some (0, n3, a3))), some (vI x4), some (vI x5), some (vI x6), some (vI x7)], [], (I, S)) r) (kf : xs0 ≠ 0 → Ev d mX7_net (88, [some (vR (some (17, 0, a0))), some (vI x1), some (vI x2), some (vR (some (0, n3, a3))), some (vI x4), some (vI x5), some (vI x6), some (vI x7)], [], (I, S)) r) : Ev d mX7_net (85, [some (vR (some (17, 0, a0))), some (vI x1), some (vI x2), some (vR (some (0, n3, a3))), some (vI x4), some (vI x5), some (vI x6), some (vI x7)], [vI xs0], (I, S)) r :=
  s_if_eq 91 rfl rfl kt kf
theorem b_X7_net_88 {d : Nat} {r : PO × PM} {I : Nat → Nat → Int} {S : PS} {a0 n3 a3 : Nat} {x1 x2 x4 x5 x6 x7 : Int} (ho1 : -2147483648 ≤ x4 - 1 ∧ x4 - 1 ≤ 2147483647) (k : Ev d mX7_net (91, [some (vR (some (17, 0, a0))), some (vI x1), some (vI x2), some (vR (some (0, n3, a3))), some (vI (x4 - 1)), some (vI x5), some (vI x6), some (vI x7)], [], (I, S)) r) : Ev d mX7_net (88, [some (vR (some (17, 0, a0))), some (vI x1), some (vI x2), some (vR (some (0, n3, a3))), some (vI x4), some (vI x5), some (vI x6), some (vI x7)], [], (I, S)) r :=
  s_iincpn [some (vR (some (17, 0, a0))), some (vI x1), some (vI x2), some (vR (some (0, n3, a3))), some (vI (x4 - 1)), some (vI x5), some (vI x6), some (vI x7)] rfl rfl ho1 rfl <|
  k
theorem b_X7_net_91 {d : Nat} {r : PO × PM} {I : Nat → Nat → Int} {S : PS} {a0 n3 a3 : Nat} {x1 x2 x4 x5 x6 x7 : Int} (ho1 : -2147483648 ≤ x5 + 1 ∧ x5 + 1 ≤ 2147483647) (k : Ev d mX7_net (6, [some (vR (some (17, 0, a0))), some (vI x1), some (vI x2), some (vR (some (0, n3, a3))), some (vI x4), some (vI (x5 + 1)), none, none], [], (I, S)) r) : Ev d mX7_net (91, [some (vR (some (17, 0, a0))), some (vI x1), some (vI x2), some (vR (some (0, n3, a3))), some (vI x4), some (vI x5), some (vI x6), some (vI x7)], [], (I, S)) r :=
  s_iincp [some (vR (some (17, 0, a0))), some (vI x1), some (vI x2), some (vR (some (0, n3, a3))), some (vI x4), some (vI (x5 + 1)), some (vI x6), some (vI x7)] rfl rfl ho1 rfl <|
  s_goto 6 rfl rfl (ev_forget [false, false, false, false, false, false, true, true] rfl k)
theorem b_X7_net_97 {d : Nat} {I : Nat → Nat → Int} {S : PS} {a0 n3 a3 : Nat} {x1 x2 x4 x5 : Int} : Ev d mX7_net (97, [some (vR (some (17, 0, a0))), some (vI x1), some (vI x2), some (vR (some (0, n3, a3))), some (vI x4), some (vI x5), none, none], [], (I, S)) (.inl (some (vI x4)), (I, S)) :=
  s_iload rfl rfl rfl <|
  s_ret rfl rfl
theorem b_X7_applies_0 {d : Nat} {r : PO × PM} {I : Nat → Nat → Int} {S : PS} {a0 : Nat} {x1 x2 x3 x4 x5 z : Int} {I1 : Nat → Nat → Int} {S1 : PS} (ho1 : -2147483648 ≤ x1 * 8 ∧ x1 * 8 ≤ 2147483647) (ho2 : -2147483648 ≤ (x1 * 8) + 1 ∧ (x1 * 8) + 1 ≤ 2147483647) (c : Ca d mX7_isWithin [vR (some (17, 0, a0)), vI x2, vI ((x1 * 8) + 1)] (I, S) (.inl (some (vI z))) (I1, S1)) (k : Ev (d + 1) mX7_applies (15, [some (vR (some (17, 0, a0))), some (vI x1), some (vI x2), some (vI x3), some (vI x4), some (vI x5), some (vI (x1 * 8)), none], [vI z], (I1, S1)) r) : Ev (d + 1) mX7_applies (0, [some (vR (some (17, 0, a0))), some (vI x1), some (vI x2), some (vI x3), some (vI x4), some (vI x5), none, none], [], (I, S)) r :=
  s_iload_n rfl rfl rfl <|
  s_bipush rfl rfl <|
  s_imulp rfl ho1 <|
  s_istore [some (vR (some (17, 0, a0))), some (vI x1), some (vI x2), some (vI x3), some (vI x4), some (vI x5), some (vI (x1 * 8)), none] rfl rfl <|
  s_aload_n rfl rfl rfl <|
  s_iload_n rfl rfl rfl <|
  s_iload rfl rfl rfl <|
  s_iconst rfl rfl <|
  s_iaddp rfl ho2 <|
  s_cvI rfl rfl rfl rfl rfl c k
theorem b_X7_applies_15 {d : Nat} {r : PO × PM} {I : Nat → Nat → Int} {S : PS} {a0 : Nat} {x1 x2 x3 x4 x5 x6 xs0 : Int} (kt : xs0 = 0 → Ev d mX7_applies (30, [some (vR (some (17, 0, a0))), some (vI x1), some (vI x2), some (vI x3), some (vI x4), some (vI x5), some (vI x6), none], [], (I, S)) r) (kf : xs0 ≠ 0 → Ev d mX7_applies (18, [some (vR (some (17, 0, a0))), some (vI x1), some (vI x2), some (vI x3), some (vI x4), some (vI x5), some (vI x6), none], [], (I, S)) r) : Ev d mX7_applies (15, [some (vR (some (17, 0, a0))), some (vI x1), some (vI x2), some (vI x3), some (vI x4), some (vI x5), some (vI x6), none], [vI xs0], (I, S)) r :=
  s_if_eq 30 rfl rfl kt kf
theorem b_X7_applies_18 {d : Nat} {r : PO × PM} {I : Nat → Nat → Int} {S : PS} {a0 : Nat} {x1 x2 x3 x4 x5 x6 z : Int} {I1 : Nat → Nat → Int} {S1 : PS} (ho1 : -2147483648 ≤ x6 + 3 ∧ x6 + 3 ≤ 2147483647) (c : Ca d mX7_isWithin [vR (some (17, 0, a0)), vI x3, vI (x6 + 3)] (I, S) (.inl (some (vI z))) (I1, S1)) (k : Ev (d + 1) mX7_applies (27, [some (vR (some (17, 0, a0))), some (vI x1), some (vI x2), some (vI x3), some (vI x4), some (vI x5), some (vI x6), none], [vI z], (I1, S1)) r) : Ev (d + 1) mX7_applies (18, [some (vR (some (17, 0, a0))), some (vI x1), some (vI x2), some (vI x3), some (vI x4), some (vI x5), some (vI x6), none], [], (I, S)) r :=
  s_aload_n rfl rfl rfl <|
  s_iload_n rfl rfl rfl <|
  s_iload rfl rfl rfl <|
  s_iconst rfl rfl <|
  s_iaddp rfl ho1 <|
  s_cvI rfl rfl rfl rfl rfl c k
theorem b_X7_applies_27 {d : Nat} {r : PO × PM} {I : Nat → Nat → Int} {S : PS} {a0 : Nat} {x1 x2 x3 x4 x5 x6 xs0 : Int} (kt : xs0 ≠ 0 → Ev d mX7_applies (32, [some (vR (some (17, 0, a0))), some (vI x1), some (vI x2), some (vI x3), some (vI x4), some (vI x5), some (vI x6), none], [], (I, S)) r) (kf : xs0 = 0 → Ev d mX7_applies (30, [some (vR (some (17, 0, a0))), some (vI x1), some (vI x2), some (vI x3), some (vI x4), some (vI x5), some (vI x6), none], [], (I, S)) r) : Ev d mX7_applies (27, [some (vR (some (17, 0, a0))), some (vI x1), some (vI x2), some (vI x3), some (vI x4), some (vI x5), some (vI x6), none], [vI xs0], (I, S)) r :=
  s_if_ne 32 rfl rfl kt kf
theorem b_X7_applies_30 {d : Nat} {I : Nat → Nat → Int} {S : PS} {a0 : Nat} {x1 x2 x3 x4 x5 x6 : Int} : Ev d mX7_applies (30, [some (vR (some (17, 0, a0))), some (vI x1), some (vI x2), some (vI x3), some (vI x4), some (vI x5), some (vI x6), none], [], (I, S)) (.inl (some (vI 0)), (I, S)) :=
  s_iconst rfl rfl <|
  s_ret rfl rfl
theorem b_X7_applies_32 {d : Nat} {r : PO × PM} {I : Nat → Nat → Int} {S : PS} {a0 p1 q1 : Nat} {x1 x2 x3 x4 x5 x6 : Int} (hr1 : S.1 a0 1 = some (0, q1, p1)) (ho2 : -2147483648 ≤ x6 + 7 ∧ x6 + 7 ≤ 2147483647) (hi3 : 0 ≤ x6 + 7 ∧ x6 + 7 < (q1 : Nat)) (kt : I p1 (x6 + 7).toNat ≠ 1 → Ev d mX7_applies (82, [some (vR (some (17, 0, a0))), some (vI x1), some (vI x2), some (vI x3), some (vI x4), some (vI x5), some (vI x6), some (vI (I p1 (x6 + 7).toNat))], [], (I, S)) r) (kf : I p1 (x6 + 7).toNat = 1 → Ev d mX7_applies (50, [some (vR (some (17, 0, a0))), some (vI x1), some (vI x2), some (vI x3), some (vI x4), some (vI x5), some (vI x6), some (vI (I p1 (x6 + 7).toNat))], [], (I, S)) r) : Ev d mX7_applies (32, [some (vR (some (17, 0, a0))), some (vI x1), some (vI x2), some (vI x3), some (vI x4), some (vI x5), some (vI x6), none], [], (I, S)) r :=
  s_aload_n rfl rfl rfl <|
  s_getR rfl rfl rfl hr1 <|
  s_iload rfl rfl rfl <|
  s_bipush rfl rfl <|
  s_iaddp rfl ho2 <|
  s_iald rfl rfl hi3 <|
  s_istore [some (vR (some (17, 0, a0))), some (vI x1), some (vI x2), some (vI x3), some (vI x4), some (vI x5), some (vI x6), some (vI (I p1 (x6 + 7).toNat))] rfl rfl <|
  s_iload rfl rfl rfl <|
  s_iconst rfl rfl <|
  s_icmp_ne 82 rfl rfl kt kf
theorem b_X7_applies_50 {d : Nat} {r : PO × PM} {I : Nat → Nat → Int} {S : PS} {a0 : Nat} {x1 x2 x3 x4 x5 x6 x7 z : Int} {I1 : Nat → Nat → Int} {S1 : PS} (ho1 : -2147483648 ≤ x6 + 5 ∧ x6 + 5 ≤ 2147483647) (c : Ca d mX7_isWithin [vR (some (17, 0, a0)), vI x4, vI (x6 + 5)] (I, S) (.inl (some (vI z))) (I1, S1)) (k : Ev (d + 1) mX7_applies (60, [some (vR (some (17, 0, a0))), some (vI x1), some (vI x2), some (vI x3), some (vI x4), some (vI x5), some (vI x6), some (vI x7)], [vI z], (I1, S1)) r) : Ev (d + 1) mX7_applies (50, [some (vR (some (17, 0, a0))), some (vI x1), some (vI x2), some (vI x3), some (vI x4), some (vI x5), some (vI x6), some (vI x7)], [], (I, S)) r :=
  s_aload_n rfl rfl rfl <|
  s_iload rfl rfl rfl <|
  s_iload rfl rfl rfl <|
  s_iconst rfl rfl <|
  s_iaddp rfl ho1 <|
  s_cvI rfl rfl rfl rfl rfl c k
theorem b_X7_applies_60 {d : Nat} {r : PO × PM} {I : Nat → Nat → Int} {S : PS} {a0 : Nat} {x1 x2 x3 x4 x5 x6 x7 xs0 : Int} (kt : xs0 ≠ 0 → Ev d mX7_applies (76, [some (vR (some (17, 0, a0))), some (vI x1), some (vI x2), some (vI x3), some (vI x4), some (vI x5), some (vI x6), some (vI x7)], [], (I, S)) r) (kf : xs0 = 0 → Ev d mX7_applies (63, [some (vR (some (17, 0, a0))), some (vI x1), some (vI x2), some (vI x3), some (vI x4), some (vI x5), some (vI x6), some (vI x7)], [], (I, S)) r) : Ev d mX7_applies (60, [some (vR (some (17, 0, a0))), some (vI x1), some (vI x2), some (vI x3), some (vI x4), some (vI x5), some (vI x6), some (vI x7)], [vI xs0], (I, S)) r :=
  s_if_ne 76 rfl rfl kt kf
theorem b_X7_applies_63 {d : Nat} {r : PO × PM} {I : Nat → Nat → Int} {S : PS} {a0 : Nat} {x1 x2 x3 x4 x5 x6 x7 z : Int} {I1 : Nat → Nat → Int} {S1 : PS} (ho1 : -2147483648 ≤ x6 + 5 ∧ x6 + 5 ≤ 2147483647) (c : Ca d mX7_isWithin [vR (some (17, 0, a0)), vI x5, vI (x6 + 5)] (I, S) (.inl (some (vI z))) (I1, S1)) (k : Ev (d + 1) mX7_applies (73, [some (vR (some (17, 0, a0))), some (vI x1), some (vI x2), some (vI x3), some (vI x4), some (vI x5), some (vI x6), some (vI x7)], [vI z], (I1, S1)) r) : Ev (d + 1) mX7_applies (63, [some (vR (some (17, 0, a0))), some (vI x1), some (vI x2), some (vI x3), some (vI x4), some (vI x5), some (vI x6), some (vI x7)], [], (I, S)) r :=
  s_aload_n rfl rfl rfl <|
  s_iload rfl rfl rfl <|
  s_iload rfl rfl rfl <|
  s_iconst rfl rfl <|
  s_iaddp rfl ho1 <|
  s_cvI rfl rfl rfl rfl rfl c k
theorem b_X7_applies_73 {d : Nat} {r : PO × PM} {I : Nat → Nat → Int} {S : PS} {a0 : Nat} {x1 x2 x3 x4 x5 x6 x7 xs0 : Int} (kt : xs0 = 0 → Ev d mX7_applies (80, [some (vR (some (17, 0, a0))), some (vI x1), some (vI x2), some (vI x3), some (vI x4), some (vI x5), some (vI x6), some (vI x7)], [], (I, S)) r) (kf : xs0 ≠ 0 → Ev d mX7_applies (76, [some (vR (some (17, 0, a0))), some (vI x1), some (vI x2), some (vI x3), some (vI x4), some (vI x5), some (vI x6), some (vI x7)], [], (I, S)) r) : Ev d mX7_applies (73, [some (vR (some (17, 0, a0))), some (vI x1), some (vI x2), some (vI x3), some (vI x4), some (vI x5), some (vI x6), some (vI x7)], [vI xs0], (I, S)) r :=
  s_if_eq 80 rfl rfl kt kf
theorem b_X7_applies_76 {d : Nat} {r : PO × PM} {I : Nat → Nat → Int} {S : PS} {a0 : Nat} {x1 x2 x3 x4 x5 x6 x7 : Int} (k : Ev d mX7_applies (81, [some (vR (some (17, 0, a0))), some (vI x1), some (vI x2), some (vI x3), some (vI x4), some (vI x5), some (vI x6), some (vI x7)], [vI 1], (I, S)) r) : Ev d mX7_applies (76, [some (vR (some (17, 0, a0))), some (vI x1), some (vI x2), some (vI x3), some (vI x4), some (vI x5), some (vI x6), some (vI x7)], [], (I, S)) r :=
  s_iconst rfl rfl <|
  s_goto 81 rfl rfl k
theorem b_X7_applies_80 {d : Nat} {r : PO × PM} {I : Nat → Nat → Int} {S : PS} {a0 : Nat} {x1 x2 x3 x4 x5 x6 x7 : Int} (k : Ev d mX7_applies (81, [some (vR (some (17, 0, a0))), some (vI x1), some (vI x2), some (vI x3), some (vI x4), some (vI x5), some (vI x6), some (vI x7)], [vI 0], (I, S)) r) : Ev d mX7_applies (80, [some (vR (some (17, 0, a0))), some (vI x1), some (vI x2), some (vI x3), some (vI x4), some (vI x5), some (vI x6), some (vI x7)], [], (I, S)) r :=
  s_iconst rfl rfl <|
  k
theorem b_X7_applies_81 {d : Nat} {I : Nat → Nat → Int} {S : PS} {a0 : Nat} {x1 x2 x3 x4 x5 x6 x7 xs0 : Int} (hb1 : xs0 = 0 ∨ xs0 = 1) : Ev d mX7_applies (81, [some (vR (some (17, 0, a0))), some (vI x1), some (vI x2), some (vI x3), some (vI x4), some (vI x5), some (vI x6), some (vI x7)], [vI xs0], (I, S)) (.inl (some (vI xs0)), (I, S)) :=
  s_retz rfl rfl hb1
theorem b_X7_applies_82 {d : Nat} {r : PO × PM} {I : Nat → Nat → Int} {S : PS} {a0 : Nat} {x1 x2 x3 x4 x5 x6 x7 : Int} (kt : x7 ≠ 2 → Ev d mX7_applies (114, [some (vR (some (17, 0, a0))), some (vI x1), some (vI x2), some (vI x3), some (vI x4), some (vI x5), some (vI x6), some (vI x7)], [], (I, S)) r) (kf : x7 = 2 → Ev d mX7_applies (88, [some (vR (some (17, 0, a0))), some (vI x1), some (vI x2), some (vI x3), some (vI x4), some (vI x5), some (vI x6), some (vI x7)], [], (I, S)) r) : Ev d mX7_applies (82, [some (vR (some (17, 0, a0))), some (vI x1), some (vI x2), some (vI x3), some (vI x4), some (vI x5), some (vI x6), some (vI x7)], [], (I, S)) r :=
  s_iload rfl rfl rfl <|
  s_iconst rfl rfl <|
  s_icmp_ne 114 rfl rfl kt kf
theorem b_X7_applies_88 {d : Nat} {r : PO × PM} {I : Nat → Nat → Int} {S : PS} {a0 : Nat} {x1 x2 x3 x4 x5 x6 x7 z : Int} {I1 : Nat → Nat → Int} {S1 : PS} (ho1 : -2147483648 ≤ x6 + 5 ∧ x6 + 5 ≤ 2147483647) (c : Ca d mX7_isWithin [vR (some (17, 0, a0)), vI x4, vI (x6 + 5)] (I, S) (.inl (some (vI z))) (I1, S1)) (k : Ev (d + 1) mX7_applies (98, [some (vR (some (17, 0, a0))), some (vI x1), some (vI x2), some (vI x3), some (vI x4), some (vI x5), some (vI x6), some (vI x7)], [vI z], (I1, S1)) r) : Ev (d + 1) mX7_applies (88, [some (vR (some (17, 0, a0))), some (vI x1), some (vI x2), some (vI x3), some (vI x4), some (vI x5), some (vI x6), some (vI x7)], [], (I, S)) r :=
  s_aload_n rfl rfl rfl <|
  s_iload rfl rfl rfl <|
  s_iload rfl rfl rfl <|
  s_iconst rfl rfl <|
  s_iaddp rfl ho1 <|
  s_cvI rfl rfl rfl rfl rfl c k
theorem b_X7_applies_98 {d : Nat} {r : PO × PM} {I : Nat → Nat → Int} {S : PS} {a0 : Nat} {x1 x2 x3 x4 x5 x6 x7 xs0 : Int} (kt : xs0 = 0 → Ev d mX7_applies (118, [some (vR (some (17, 0, a0))), some (vI x1), some (vI x2), some (vI x3), some (vI x4), some (vI x5), some (vI x6), some (vI x7)], [], (I, S)) r) (kf : xs0 ≠ 0 → Ev d mX7_applies (101, [some (vR (some (17, 0, a0))), some (vI x1), some (vI x2), some (vI x3), some (vI x4), some (vI x5), some (vI x6), some (vI x7)], [], (I, S)) r) : Ev d mX7_applies (98, [some (vR (some (17, 0, a0))), some (vI x1), some (vI x2), some (vI x3), some (vI x4), some (vI x5), some (vI x6), some (vI x7)], [vI xs0], (I, S)) r :=
  s_if_eq 118 rfl rfl kt kf
theorem b_X7_applies_101 {d : Nat} {r : PO × PM} {I : Nat → Nat → Int} {S : PS} {a0 : Nat} {x1 x2 x3 x4 x5 x6 x7 z : Int} {I1 : Nat → Nat → Int} {S1 : PS} (ho1 : -2147483648 ≤ x6 + 5 ∧ x6 + 5 ≤ 2147483647) (c : Ca d mX7_isWithin [vR (some (17, 0, a0)), vI x5, vI (x6 + 5)] (I, S) (.inl (some (vI z))) (I1, S1)) (k : Ev (d + 1) mX7_applies (111, [some (vR (some (17, 0, a0))), some (vI x1), some (vI x2), some (vI x3), some (vI x4), some (vI x5), some (vI x6), some (vI x7)], [vI z], (I1, S1)) r) : Ev (d + 1) mX7_applies (101, [some (vR (some (17, 0, a0))), some (vI x1), some (vI x2), some (vI x3), some (vI x4), some (vI x5), some (vI x6), some (vI x7)], [], (I, S)) r :=
  s_aload_n rfl rfl rfl <|
  s_iload rfl rfl rfl <|
  s_iload rfl rfl rfl <|
  s_iconst rfl rfl <|
  s_iaddp rfl ho1 <|
  s_cvI rfl rfl rfl rfl rfl c k
theorem b_X7_applies_111 {d : Nat} {r : PO × PM} {I : Nat → Nat → Int} {S : PS} {a0 : Nat} {x1 x2 x3 x4 x5 x6 x7 xs0 : Int} (kt : xs0 = 0 → Ev d mX7_applies (118, [some (vR (some (17, 0, a0))), some (vI x1), some (vI x2), some (vI x3), some (vI x4), some (vI x5), some (vI x6), some (vI x7)], [], (I, S)) r) (kf : xs0 ≠ 0 → Ev d mX7_applies (114, [some (vR (some (17, 0, a0))), some (vI x1), some (vI x2), some (vI x3), some (vI x4), some (vI x5), some (vI x6), some (vI x7)], [], (I, S)) r) : Ev d mX7_applies (111, [some (vR (some (17, 0, a0))), some (vI x1), some (vI x2), some (vI x3), some (vI x4), some (vI x5), some (vI x6), some (vI x7)], [vI xs0], (I, S)) r :=
  s_if_eq 118 rfl rfl kt kf
theorem b_X7_applies_114 {d : Nat} {r : PO × PM} {I : Nat → Nat → Int} {S : PS} {a0 : Nat} {x1 x2 x3 x4 x5 x6 x7 : Int} (k : Ev d mX7_applies (119, [some (vR (some (17, 0, a0))), some (vI x1), some (vI x2), some (vI x3), some (vI x4), some (vI x5), some (vI x6), some (vI x7)], [vI 1], (I, S)) r) : Ev d mX7_applies (114, [some (vR (some (17, 0, a0))), some (vI x1), some (vI x2), some (vI x3), some (vI x4), some (vI x5), some (vI x6), some (vI x7)], [], (I, S)) r :=
  s_iconst rfl rfl <|
  s_goto 119 rfl rfl k
theorem b_X7_applies_118 {d : Nat} {r : PO × PM} {I : Nat → Nat → Int} {S : PS} {a0 : Nat} {x1 x2 x3 x4 x5 x6 x7 : Int} (k : Ev d mX7_applies (119, [some (vR (some (17, 0, a0))), some (vI x1), some (vI x2), some (vI x3), some (vI x4), some (vI x5), some (vI x6), some (vI x7)], [vI 0], (I, S)) r) : Ev d mX7_applies (118, [some (vR (some (17, 0, a0))), some (vI x1), some (vI x2), some (vI x3), some (vI x4), some (vI x5), some (vI x6), some (vI x7)], [], (I, S)) r :=
  s_iconst rfl rfl <|
  k
theorem b_X7_applies_119 {d : Nat} {I : Nat → Nat → Int} {S : PS} {a0 : Nat} {x1 x2 x3 x4 x5 x6 x7 xs0 : Int} (hb1 : xs0 = 0 ∨ xs0 = 1) : Ev d mX7_applies (119, [some (vR (some (17, 0, a0))), some (vI x1), some (vI x2), some (vI x3), some (vI x4), some (vI x5), some (vI x6), some (vI x7)], [vI xs0], (I, S)) (.inl (some (vI xs0)), (I, S)) :=
  s_retz rfl rfl hb1
theorem b_X7_isWithin_0 {d : Nat} {r : PO × PM} {I : Nat → Nat → Int} {S : PS} {a0 p1 q1 : Nat} {x1 x2 : Int} (hr1 : S.1 a0 1 = some (0, q1, p1)) (hi2 : 0 ≤ x2 ∧ x2 < (q1 : Nat)) (kt : x1 < I p1 x2.toNat → Ev d mX7_isWithin (26, [some (vR (some (17, 0, a0))), some (vI x1), some (vI x2)], [], (I, S)) r) (kf : I p1 x2.toNat ≤ x1 → Ev d mX7_isWithin (10, [some (vR (some (17, 0, a0))), some (vI x1), some (vI x2)], [], (I, S)) r) : Ev d mX7_isWithin (0, [some (vR (some (17, 0, a0))), some (vI x1), some (vI x2)], [], (I, S)) r :=
  s_iload_n rfl rfl rfl <|
  s_aload_n rfl rfl rfl <|
  s_getR rfl rfl rfl hr1 <|
  s_iload_n rfl rfl rfl <|
  s_iald rfl rfl hi2 <|
  s_icmp_lt 26 rfl rfl kt kf
theorem b_X7_isWithin_10 {d : Nat} {r : PO × PM} {I : Nat → Nat → Int} {S : PS} {a0 p1 q1 : Nat} {x1 x2 : Int} (hr1 : S.1 a0 1 = some (0, q1, p1)) (ho2 : -2147483648 ≤ x2 + 1 ∧ x2 + 1 ≤ 2147483647) (hi3 : 0 ≤ x2 + 1 ∧ x2 + 1 < (q1 : Nat)) (kt : I p1 (x2 + 1).toNat < x1 → Ev d mX7_isWithin (26, [some (vR (some (17, 0, a0))), some (vI x1), some (vI x2)], [], (I, S)) r) (kf : x1 ≤ I p1 (x2 + 1).toNat → Ev d mX7_isWithin (22, [some (vR (some (17, 0, a0))), some (vI x1), some (vI x2)], [], (I, S)) r) : Ev d mX7_isWithin (10, [some (vR (some (17, 0, a0))), some (vI x1), some (vI x2)], [], (I, S)) r :=
  s_iload_n rfl rfl rfl <|
  s_aload_n rfl rfl rfl <|
  s_getR rfl rfl rfl hr1 <|
  s_iload_n rfl rfl rfl <|
  s_iconst rfl rfl <|
  s_iaddp rfl ho2 <|
  s_iald rfl rfl hi3 <|
  s_icmp_gt 26 rfl rfl kt kf
theorem b_X7_isWithin_22 {d : Nat} {r : PO × PM} {I : Nat → Nat → Int} {S : PS} {a0 : Nat} {x1 x2 : Int} (k : Ev d mX7_isWithin (27, [some (vR (some (17, 0, a0))), some (vI x1), some (vI x2)], [vI 1], (I, S)) r) : Ev d mX7_isWithin (22, [some (vR (some (17, 0, a0))), some (vI x1), some (vI x2)], [], (I, S)) r :=
  s_iconst rfl rfl <|
  s_goto 27 rfl rfl k
theorem b_X7_isWithin_26 {d : Nat} {r : PO × PM} {I : Nat → Nat → Int} {S : PS} {a0 : Nat} {x1 x2 : Int} (k : Ev d mX7_isWithin (27, [some (vR (some (17, 0, a0))), some (vI x1), some (vI x2)], [vI 0], (I, S)) r) : Ev d mX7_isWithin (26, [some (vR (some (17, 0, a0))), some (vI x1), some (vI x2)], [], (I, S)) r :=
  s_iconst rfl rfl <|
  k
theorem b_X7_isWithin_27 {d : Nat} {I : Nat → Nat → Int} {S : PS} {a0 : Nat} {x1 x2 xs0 : Int} (hb1 : xs0 = 0 ∨ xs0 = 1) : Ev d mX7_isWithin (27, [some (vR (some (17, 0, a0))), some (vI x1), some (vI x2)], [vI xs0], (I, S)) (.inl (some (vI xs0)), (I, S)) :=
  s_retz rfl rfl hb1
end
