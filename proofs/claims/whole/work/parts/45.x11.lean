noncomputable section
theorem b_X11_init_0 {d : Nat} {r : PO × PM} {h : PM} {a0 : Nat} {h1 : PM} (c : Ca d mX10_init [vR (some (20, 0, (m_sz h)))] (m_new h 20 0 6) (.inl none) h1) (k : Ev (d + 1) mX11_init (12, [some (vR (some (21, 0, a0)))], [vR (some (20, 0, (m_sz h))), vR (some (21, 0, a0))], h1) r) : Ev (d + 1) mX11_init (0, [some (vR (some (21, 0, a0)))], [], h) r :=
  s_aload_n rfl rfl rfl <|
  s_obj rfl rfl rfl <|
  s_aload_n rfl rfl rfl <|
  s_new rfl rfl <|
  s_dup rfl rfl <|
  s_ci rfl rfl rfl rfl rfl rfl c k
theorem b_X11_init_12 {d : Nat} {r : PO × PM} {h : PM} {a0 as0 as1 : Nat} {h1 : PM} (c : Ca d mX0_init [vR (some (11, 0, (m_sz (m_si (m_sr h as0 0 (some (20, 0, as1))) a0 1 0))))] (m_new (m_si (m_sr h as0 0 (some (20, 0, as1))) a0 1 0) 11 0 7) (.inl none) h1) (k : Ev (d + 1) mX11_init (28, [some (vR (some (21, 0, a0)))], [vR (some (11, 0, (m_sz (m_si (m_sr h as0 0 (some (20, 0, as1))) a0 1 0)))), vR (some (21, 0, a0))], h1) r) : Ev (d + 1) mX11_init (12, [some (vR (some (21, 0, a0)))], [vR (some (20, 0, as1)), vR (some (21, 0, as0))], h) r :=
  s_putR rfl rfl rfl <|
  s_aload_n rfl rfl rfl <|
  s_iconst rfl rfl <|
  s_putI rfl rfl rfl <|
  s_aload_n rfl rfl rfl <|
  s_new rfl rfl <|
  s_dup rfl rfl <|
  s_ci rfl rfl rfl rfl rfl rfl c k
theorem b_X11_init_28 {d : Nat} {r : PO × PM} {h : PM} {a0 as0 as1 : Nat} {h1 : PM} (c : Ca d mX0_init [vR (some (11, 0, (m_sz (m_sr h as0 2 (some (11, 0, as1))))))] (m_new (m_sr h as0 2 (some (11, 0, as1))) 11 0 7) (.inl none) h1) (k : Ev (d + 1) mX11_init (39, [some (vR (some (21, 0, a0)))], [vR (some (11, 0, (m_sz (m_sr h as0 2 (some (11, 0, as1)))))), vR (some (21, 0, a0))], h1) r) : Ev (d + 1) mX11_init (28, [some (vR (some (21, 0, a0)))], [vR (some (11, 0, as1)), vR (some (21, 0, as0))], h) r :=
  s_putR rfl rfl rfl <|
  s_aload_n rfl rfl rfl <|
  s_new rfl rfl <|
  s_dup rfl rfl <|
  s_ci rfl rfl rfl rfl rfl rfl c k
theorem b_X11_init_39 {d : Nat} {r : PO × PM} {h : PM} {a0 as0 as1 : Nat} {h1 : PM} (c : Ca d mX1_init [vR (some (12, 0, (m_sz (m_sr (m_new (m_sr h as0 3 (some (11, 0, as1))) 4 3 3) a0 4 (some (4, 3, (m_sz (m_sr h as0 3 (some (11, 0, as1))))))))))] (m_new (m_sr (m_new (m_sr h as0 3 (some (11, 0, as1))) 4 3 3) a0 4 (some (4, 3, (m_sz (m_sr h as0 3 (some (11, 0, as1))))))) 12 0 4) (.inl none) h1) (k : Ev (d + 1) mX11_init (58, [some (vR (some (21, 0, a0)))], [vR (some (12, 0, (m_sz (m_sr (m_new (m_sr h as0 3 (some (11, 0, as1))) 4 3 3) a0 4 (some (4, 3, (m_sz (m_sr h as0 3 (some (11, 0, as1)))))))))), vR (some (21, 0, a0))], h1) r) : Ev (d + 1) mX11_init (39, [some (vR (some (21, 0, a0)))], [vR (some (11, 0, as1)), vR (some (21, 0, as0))], h) r :=
  s_putR rfl rfl rfl <|
  s_aload_n rfl rfl rfl <|
  s_iconst rfl rfl <|
  s_anew (n := 3) rfl rfl (by decide) <|
  s_putR rfl rfl rfl <|
  s_aload_n rfl rfl rfl <|
  s_new rfl rfl <|
  s_dup rfl rfl <|
  s_ci rfl rfl rfl rfl rfl rfl c k
theorem b_X11_init_58 {d : Nat} {r : PO × PM} {h : PM} {a0 as0 as1 : Nat} {h1 : PM} (c : Ca d mX9_init [vR (some (19, 0, (m_sz (m_sr h as0 5 (some (12, 0, as1))))))] (m_new (m_sr h as0 5 (some (12, 0, as1))) 19 0 9) (.inl none) h1) (k : Ev (d + 1) mX11_init (69, [some (vR (some (21, 0, a0)))], [vR (some (19, 0, (m_sz (m_sr h as0 5 (some (12, 0, as1)))))), vR (some (21, 0, a0))], h1) r) : Ev (d + 1) mX11_init (58, [some (vR (some (21, 0, a0)))], [vR (some (12, 0, as1)), vR (some (21, 0, as0))], h) r :=
  s_putR rfl rfl rfl <|
  s_aload_n rfl rfl rfl <|
  s_new rfl rfl <|
  s_dup rfl rfl <|
  s_ci rfl rfl rfl rfl rfl rfl c k
theorem b_X11_init_69 {d : Nat} {r : PO × PM} {h : PM} {a0 as0 as1 : Nat} {h1 : PM} (c : Ca d mX9_init [vR (some (19, 0, (m_sz (m_sr h as0 6 (some (19, 0, as1))))))] (m_new (m_sr h as0 6 (some (19, 0, as1))) 19 0 9) (.inl none) h1) (k : Ev (d + 1) mX11_init (80, [some (vR (some (21, 0, a0)))], [vR (some (19, 0, (m_sz (m_sr h as0 6 (some (19, 0, as1)))))), vR (some (21, 0, a0))], h1) r) : Ev (d + 1) mX11_init (69, [some (vR (some (21, 0, a0)))], [vR (some (19, 0, as1)), vR (some (21, 0, as0))], h) r :=
  s_putR rfl rfl rfl <|
  s_aload_n rfl rfl rfl <|
  s_new rfl rfl <|
  s_dup rfl rfl <|
  s_ci rfl rfl rfl rfl rfl rfl c k
theorem b_X11_init_80 {d : Nat} {r : PO × PM} {h : PM} {a0 as0 as1 : Nat} {h1 : PM} (c : Ca d mX8_init [vR (some (18, 0, (m_sz (m_si (m_sr h as0 7 (some (19, 0, as1))) a0 8 0))))] (m_new (m_si (m_sr h as0 7 (some (19, 0, as1))) a0 8 0) 18 0 4) (.inl none) h1) (k : Ev (d + 1) mX11_init (96, [some (vR (some (21, 0, a0)))], [vR (some (18, 0, (m_sz (m_si (m_sr h as0 7 (some (19, 0, as1))) a0 8 0)))), vR (some (21, 0, a0))], h1) r) : Ev (d + 1) mX11_init (80, [some (vR (some (21, 0, a0)))], [vR (some (19, 0, as1)), vR (some (21, 0, as0))], h) r :=
  s_putR rfl rfl rfl <|
  s_aload_n rfl rfl rfl <|
  s_iconst rfl rfl <|
  s_putZ rfl rfl rfl (Or.inl rfl) <|
  s_aload_n rfl rfl rfl <|
  s_new rfl rfl <|
  s_dup rfl rfl <|
  s_ci rfl rfl rfl rfl rfl rfl c k
theorem b_X11_init_96 {d : Nat} {r : PO × PM} {h : PM} {a0 as0 as1 : Nat} {h1 : PM} (c : Ca d mX4_init [vR (some (15, 0, (m_sz (m_sr h as0 9 (some (18, 0, as1))))))] (m_new (m_sr h as0 9 (some (18, 0, as1))) 15 0 12) (.inl none) h1) (k : Ev (d + 1) mX11_init (107, [some (vR (some (21, 0, a0)))], [vR (some (15, 0, (m_sz (m_sr h as0 9 (some (18, 0, as1)))))), vR (some (21, 0, a0))], h1) r) : Ev (d + 1) mX11_init (96, [some (vR (some (21, 0, a0)))], [vR (some (18, 0, as1)), vR (some (21, 0, as0))], h) r :=
  s_putR rfl rfl rfl <|
  s_aload_n rfl rfl rfl <|
  s_new rfl rfl <|
  s_dup rfl rfl <|
  s_ci rfl rfl rfl rfl rfl rfl c k
theorem b_X11_init_107 {d : Nat} {h : PM} {a0 as0 as1 : Nat} : Ev d mX11_init (107, [some (vR (some (21, 0, a0)))], [vR (some (15, 0, as1)), vR (some (21, 0, as0))], h) (.inl none, m_si (m_sr (m_new (m_sr (m_new (m_sr (m_new (m_sr (m_new (m_sr h as0 10 (some (15, 0, as1))) 0 9 9) a0 11 (some (0, 9, (m_sz (m_sr h as0 10 (some (15, 0, as1))))))) 0 8 8) a0 12 (some (0, 8, (m_sz (m_sr (m_new (m_sr h as0 10 (some (15, 0, as1))) 0 9 9) a0 11 (some (0, 9, (m_sz (m_sr h as0 10 (some (15, 0, as1))))))))))) 0 8 8) a0 13 (some (0, 8, (m_sz (m_sr (m_new (m_sr (m_new (m_sr h as0 10 (some (15, 0, as1))) 0 9 9) a0 11 (some (0, 9, (m_sz (m_sr h as0 10 (some (15, 0, as1))))))) 0 8 8) a0 12 (some (0, 8, (m_sz (m_sr (m_new (m_sr h as0 10 (some (15, 0, as1))) 0 9 9) a0 11 (some (0, 9, (m_sz (m_sr h as0 10 (some (15, 0, as1))))))))))))))) 0 3 3) a0 14 (some (0, 3, (m_sz (m_sr (m_new (m_sr (m_new (m_sr (m_new (m_sr h as0 10 (some (15, 0, as1))) 0 9 9) a0 11 (some (0, 9, (m_sz (m_sr h as0 10 (some (15, 0, as1))))))) 0 8 8) a0 12 (some (0, 8, (m_sz (m_sr (m_new (m_sr h as0 10 (some (15, 0, as1))) 0 9 9) a0 11 (some (0, 9, (m_sz (m_sr h as0 10 (some (15, 0, as1))))))))))) 0 8 8) a0 13 (some (0, 8, (m_sz (m_sr (m_new (m_sr (m_new (m_sr h as0 10 (some (15, 0, as1))) 0 9 9) a0 11 (some (0, 9, (m_sz (m_sr h as0 10 (some (15, 0, as1))))))) 0 8 8) a0 12 (some (0, 8, (m_sz (m_sr (m_new (m_sr h as0 10 (some (15, 0, as1))) 0 9 9) a0 11 (some (0, 9, (m_sz (m_sr h as0 10 (some (15, 0, as1))))))))))))))))))) a0 15 (-1)) :=
  s_putR rfl rfl rfl <|
  s_aload_n rfl rfl rfl <|
  s_bipush rfl rfl <|
  s_newa (n := 9) rfl (Or.inl ⟨rfl, rfl⟩) (by decide) <|
  s_putR rfl rfl rfl <|
  s_aload_n rfl rfl rfl <|
  s_bipush rfl rfl <|
  s_newa (n := 8) rfl (Or.inl ⟨rfl, rfl⟩) (by decide) <|
  s_putR rfl rfl rfl <|
  s_aload_n rfl rfl rfl <|
  s_bipush rfl rfl <|
  s_newa (n := 8) rfl (Or.inl ⟨rfl, rfl⟩) (by decide) <|
  s_putR rfl rfl rfl <|
  s_aload_n rfl rfl rfl <|
  s_iconst rfl rfl <|
  s_newa (n := 3) rfl (Or.inl ⟨rfl, rfl⟩) (by decide) <|
  s_putR rfl rfl rfl <|
  s_aload_n rfl rfl rfl <|
  s_iconst rfl rfl <|
  s_putI rfl rfl rfl <|
  s_vret rfl rfl
theorem b_X11_feed_0 {d : Nat} {r : PO × PM} {I : Nat → Nat → Int} {S : PS} {a0 : Nat} {x1 x2 x3 x4 x5 : Int} (ho1 : -2147483648 ≤ I a0 1 + 20 ∧ I a0 1 + 20 ≤ 2147483647) (kt : I a0 1 + 20 ≤ 700 → Ev d mX11_feed (15, [some (vR (some (21, 0, a0))), some (vI x1), some (vI x2), some (vI x3), some (vI x4), some (vI x5)], [], (I, S)) r) (kf : 700 < I a0 1 + 20 → Ev d mX11_feed (13, [some (vR (some (21, 0, a0))), some (vI x1), some (vI x2), some (vI x3), some (vI x4), some (vI x5)], [], (I, S)) r) : Ev d mX11_feed (0, [some (vR (some (21, 0, a0))), some (vI x1), some (vI x2), some (vI x3), some (vI x4), some (vI x5)], [], (I, S)) r :=
  s_aload_n rfl rfl rfl <|
  s_getI rfl rfl rfl <|
  s_bipush rfl rfl <|
  s_iaddp rfl ho1 <|
  s_sipush rfl rfl <|
  s_icmp_le 15 rfl rfl kt kf
theorem b_X11_feed_13 {d : Nat} {I : Nat → Nat → Int} {S : PS} {a0 : Nat} {x1 x2 x3 x4 x5 : Int} : Ev d mX11_feed (13, [some (vR (some (21, 0, a0))), some (vI x1), some (vI x2), some (vI x3), some (vI x4), some (vI x5)], [], (I, S)) (.inl (some (vI (-1))), (I, S)) :=
  s_iconst rfl rfl <|
  s_ret rfl rfl
theorem b_X11_feed_15 {d : Nat} {r : PO × PM} {I : Nat → Nat → Int} {S : PS} {a0 : Nat} {x1 x2 x3 x4 x5 : Int} {I1 : Nat → Nat → Int} {S1 : PS} (c : Ca d mX11_putBytes [vR (some (21, 0, a0)), vI x1] (I, S) (.inl none) (I1, S1)) (k : Ev (d + 1) mX11_feed (20, [some (vR (some (21, 0, a0))), some (vI x1), some (vI x2), some (vI x3), some (vI x4), some (vI x5)], [], (I1, S1)) r) : Ev (d + 1) mX11_feed (15, [some (vR (some (21, 0, a0))), some (vI x1), some (vI x2), some (vI x3), some (vI x4), some (vI x5)], [], (I, S)) r :=
  s_aload_n rfl rfl rfl <|
  s_iload_n rfl rfl rfl <|
  s_cvV rfl rfl rfl rfl rfl c k
theorem b_X11_feed_20 {d : Nat} {r : PO × PM} {I : Nat → Nat → Int} {S : PS} {a0 : Nat} {x1 x2 x3 x4 x5 : Int} {I1 : Nat → Nat → Int} {S1 : PS} (c : Ca d mX11_putBytes [vR (some (21, 0, a0)), vI x2] (I, S) (.inl none) (I1, S1)) (k : Ev (d + 1) mX11_feed (25, [some (vR (some (21, 0, a0))), some (vI x1), some (vI x2), some (vI x3), some (vI x4), some (vI x5)], [], (I1, S1)) r) : Ev (d + 1) mX11_feed (20, [some (vR (some (21, 0, a0))), some (vI x1), some (vI x2), some (vI x3), some (vI x4), some (vI x5)], [], (I, S)) r :=
  s_aload_n rfl rfl rfl <|
  s_iload_n rfl rfl rfl <|
  s_cvV rfl rfl rfl rfl rfl c k
theorem b_X11_feed_25 {d : Nat} {r : PO × PM} {I : Nat → Nat → Int} {S : PS} {a0 : Nat} {x1 x2 x3 x4 x5 : Int} {I1 : Nat → Nat → Int} {S1 : PS} (c : Ca d mX11_putBytes [vR (some (21, 0, a0)), vI x3] (I, S) (.inl none) (I1, S1)) (k : Ev (d + 1) mX11_feed (30, [some (vR (some (21, 0, a0))), some (vI x1), some (vI x2), some (vI x3), some (vI x4), some (vI x5)], [], (I1, S1)) r) : Ev (d + 1) mX11_feed (25, [some (vR (some (21, 0, a0))), some (vI x1), some (vI x2), some (vI x3), some (vI x4), some (vI x5)], [], (I, S)) r :=
  s_aload_n rfl rfl rfl <|
  s_iload_n rfl rfl rfl <|
  s_cvV rfl rfl rfl rfl rfl c k
theorem b_X11_feed_30 {d : Nat} {r : PO × PM} {I : Nat → Nat → Int} {S : PS} {a0 : Nat} {x1 x2 x3 x4 x5 : Int} {I1 : Nat → Nat → Int} {S1 : PS} (c : Ca d mX11_putBytes [vR (some (21, 0, a0)), vI x4] (I, S) (.inl none) (I1, S1)) (k : Ev (d + 1) mX11_feed (36, [some (vR (some (21, 0, a0))), some (vI x1), some (vI x2), some (vI x3), some (vI x4), some (vI x5)], [], (I1, S1)) r) : Ev (d + 1) mX11_feed (30, [some (vR (some (21, 0, a0))), some (vI x1), some (vI x2), some (vI x3), some (vI x4), some (vI x5)], [], (I, S)) r :=
  s_aload_n rfl rfl rfl <|
  s_iload rfl rfl rfl <|
  s_cvV rfl rfl rfl rfl rfl c k
theorem b_X11_feed_36 {d : Nat} {r : PO × PM} {I : Nat → Nat → Int} {S : PS} {a0 : Nat} {x1 x2 x3 x4 x5 : Int} {I1 : Nat → Nat → Int} {S1 : PS} (c : Ca d mX11_putBytes [vR (some (21, 0, a0)), vI x5] (I, S) (.inl none) (I1, S1)) (k : Ev (d + 1) mX11_feed (42, [some (vR (some (21, 0, a0))), some (vI x1), some (vI x2), some (vI x3), some (vI x4), some (vI x5)], [], (I1, S1)) r) : Ev (d + 1) mX11_feed (36, [some (vR (some (21, 0, a0))), some (vI x1), some (vI x2), some (vI x3), some (vI x4), some (vI x5)], [], (I, S)) r :=
  s_aload_n rfl rfl rfl <|
  s_iload rfl rfl rfl <|
  s_cvV rfl rfl rfl rfl rfl c k
theorem b_X11_feed_42 {d : Nat} {I : Nat → Nat → Int} {S : PS} {a0 : Nat} {x1 x2 x3 x4 x5 : Int} : Ev d mX11_feed (42, [some (vR (some (21, 0, a0))), some (vI x1), some (vI x2), some (vI x3), some (vI x4), some (vI x5)], [], (I, S)) (.inl (some (vI (I a0 1))), (I, S)) :=
  s_aload_n rfl rfl rfl <|
  s_getI rfl rfl rfl <|
  s_ret rfl rfl
theorem b_X11_atlas_0 {d : Nat} {r : PO × PM} {h : PM} {a0 : Nat} {x1 : Int} {h1 : PM} (c : Ca d mX11_takeTape [vR (some (21, 0, a0)), vI x1] h (.inl none) h1) (k : Ev (d + 1) mX11_atlas (5, [some (vR (some (21, 0, a0))), some (vI x1), none, none], [], h1) r) : Ev (d + 1) mX11_atlas (0, [some (vR (some (21, 0, a0))), some (vI x1), none, none], [], h) r :=
  s_aload_n rfl rfl rfl <|
  s_iload_n rfl rfl rfl <|
  s_cvV rfl rfl rfl rfl rfl c k
theorem bt_X11_atlas_0 {d e : Nat} {h : PM} {h1 : PM} {a0 : Nat} {x1 : Int} (c : Ca d mX11_takeTape [vR (some (21, 0, a0)), vI x1] h (.inr e) h1) (hh : p_hnd mX11_atlas 2 e [some (vR (some (21, 0, a0))), some (vI x1), none, none] = some none) : Ev (d + 1) mX11_atlas (0, [some (vR (some (21, 0, a0))), some (vI x1), none, none], [], h) (.inr e, h1) :=
  s_aload_n rfl rfl rfl <|
  s_iload_n rfl rfl rfl <|
  s_cvT rfl rfl rfl rfl rfl c hh
theorem b_X11_atlas_5 {d : Nat} {r : PO × PM} {h : PM} {a0 p1 p2 : Nat} {x1 z : Int} {h1 : PM} (hr1 : h.2.1 a0 0 = some (20, 0, p1)) (hr2 : h.2.1 a0 3 = some (11, 0, p2)) (c : Ca d mX5_read [vR (some (20, 0, p1)), vR (some (11, 0, p2))] h (.inl (some (vI z))) h1) (k : Ev (d + 1) mX11_atlas (16, [some (vR (some (21, 0, a0))), some (vI x1), none, none], [vI z], h1) r) : Ev (d + 1) mX11_atlas (5, [some (vR (some (21, 0, a0))), some (vI x1), none, none], [], h) r :=
  s_aload_n rfl rfl rfl <|
  s_getR rfl rfl rfl hr1 <|
  s_aload_n rfl rfl rfl <|
  s_getR rfl rfl rfl hr2 <|
  s_csI rfl rfl rfl rfl rfl rfl c k
theorem b_X11_atlas_16 {d : Nat} {r : PO × PM} {h : PM} {a0 : Nat} {x1 xs0 : Int} (kt : xs0 = 0 → Ev d mX11_atlas (44, [some (vR (some (21, 0, a0))), some (vI x1), some (vI xs0), none], [], h) r) (kf : xs0 ≠ 0 → Ev d mX11_atlas (21, [some (vR (some (21, 0, a0))), some (vI x1), some (vI xs0), none], [], h) r) : Ev d mX11_atlas (16, [some (vR (some (21, 0, a0))), some (vI x1), none, none], [vI xs0], h) r :=
  s_istore_n [some (vR (some (21, 0, a0))), some (vI x1), some (vI xs0), none] rfl rfl <|
  s_iload_n rfl rfl rfl <|
  s_if_eq 44 rfl rfl kt kf
theorem b_X11_atlas_21 {d : Nat} {h : PM} {a0 p1 p2 q2 : Nat} {x1 x2 : Int} (hr1 : h.2.1 a0 0 = some (20, 0, p1)) (hr2 : h.2.1 a0 14 = some (0, q2, p2)) (hi3 : 0 < q2) (ho4 : -2147483648 ≤ (((m_si h a0 15 (h.1 p1 4)).1) p2 0) + 1 ∧ (((m_si h a0 15 (h.1 p1 4)).1) p2 0) + 1 ≤ 2147483647) (hi5 : 0 < q2) : Ev d mX11_atlas (21, [some (vR (some (21, 0, a0))), some (vI x1), some (vI x2), none], [], h) (.inl (some (vI x2)), m_si (m_si h a0 15 (h.1 p1 4)) p2 0 ((((m_si h a0 15 (h.1 p1 4)).1) p2 0) + 1)) :=
  s_aload_n rfl rfl rfl <|
  s_aload_n rfl rfl rfl <|
  s_getR rfl rfl rfl hr1 <|
  s_getI rfl rfl rfl <|
  s_putI rfl rfl rfl <|
  s_aload_n rfl rfl rfl <|
  s_getR rfl rfl rfl hr2 <|
  s_iconst rfl rfl <|
  s_dup2 rfl rfl <|
  s_iald rfl rfl (p_lit (k := 0) hi3) <|
  s_iconst rfl rfl <|
  s_iaddp rfl ho4 <|
  s_iast rfl (p_lit (k := 0) hi5) <|
  s_iload_n rfl rfl rfl <|
  s_ret rfl rfl
theorem b_X11_atlas_44 {d : Nat} {r : PO × PM} {h : PM} {a0 p1 p2 p3 p4 p5 : Nat} {x1 x2 : Int} {h1 : PM} (hr1 : h.2.1 a0 2 = some (11, 0, p1)) (hr2 : h.2.1 a0 3 = some (11, 0, p2)) (hr3 : (m_sr (m_sr (m_si h a0 15 (-1)) a0 2 (some (11, 0, p2))) a0 3 (some (11, 0, p1))).2.1 a0 6 = some (19, 0, p3)) (hr4 : (m_sr (m_sr (m_si h a0 15 (-1)) a0 2 (some (11, 0, p2))) a0 3 (some (11, 0, p1))).2.1 a0 2 = some (11, 0, p4)) (hr5 : (m_sr (m_sr (m_si h a0 15 (-1)) a0 2 (some (11, 0, p2))) a0 3 (some (11, 0, p1))).2.1 p4 2 = some (17, 0, p5)) (c : Ca d mX9_begin [vR (some (19, 0, p3)), vR (some (17, 0, p5))] (m_sr (m_sr (m_si h a0 15 (-1)) a0 2 (some (11, 0, p2))) a0 3 (some (11, 0, p1))) (.inl none) h1) (k : Ev (d + 1) mX11_atlas (81, [some (vR (some (21, 0, a0))), some (vI x1), some (vI x2), some (vR (some (11, 0, p1)))], [], h1) r) : Ev (d + 1) mX11_atlas (44, [some (vR (some (21, 0, a0))), some (vI x1), some (vI x2), none], [], h) r :=
  s_aload_n rfl rfl rfl <|
  s_iconst rfl rfl <|
  s_putI rfl rfl rfl <|
  s_aload_n rfl rfl rfl <|
  s_getR rfl rfl rfl hr1 <|
  s_astore_n [some (vR (some (21, 0, a0))), some (vI x1), some (vI x2), some (vR (some (11, 0, p1)))] rfl rfl <|
  s_aload_n rfl rfl rfl <|
  s_aload_n rfl rfl rfl <|
  s_getR rfl rfl rfl hr2 <|
  s_putR rfl rfl rfl <|
  s_aload_n rfl rfl rfl <|
  s_aload_n rfl rfl rfl <|
  s_putR rfl rfl rfl <|
  s_aload_n rfl rfl rfl <|
  s_getR rfl rfl rfl hr3 <|
  s_aload_n rfl rfl rfl <|
  s_getR rfl rfl rfl hr4 <|
  s_getR rfl rfl rfl hr5 <|
  s_cvV rfl rfl rfl rfl rfl c k
theorem b_X11_atlas_81 {d : Nat} {r : PO × PM} {h : PM} {a0 a3 p1 : Nat} {x1 x2 : Int} {h1 : PM} (hr1 : h.2.1 a0 10 = some (15, 0, p1)) (c : Ca d mX4_forgetTold [vR (some (15, 0, p1))] (m_si h a0 8 0) (.inl none) h1) (k : Ev (d + 1) mX11_atlas (93, [some (vR (some (21, 0, a0))), some (vI x1), some (vI x2), some (vR (some (11, 0, a3)))], [], h1) r) : Ev (d + 1) mX11_atlas (81, [some (vR (some (21, 0, a0))), some (vI x1), some (vI x2), some (vR (some (11, 0, a3)))], [], h) r :=
  s_aload_n rfl rfl rfl <|
  s_iconst rfl rfl <|
  s_putZ rfl rfl rfl (Or.inl rfl) <|
  s_aload_n rfl rfl rfl <|
  s_getR rfl rfl rfl hr1 <|
  s_cvV rfl rfl rfl rfl rfl c k
theorem b_X11_atlas_93 {d : Nat} {h : PM} {a0 a3 : Nat} {x1 x2 : Int} : Ev d mX11_atlas (93, [some (vR (some (21, 0, a0))), some (vI x1), some (vI x2), some (vR (some (11, 0, a3)))], [], h) (.inl (some (vI 0)), h) :=
  s_iconst rfl rfl <|
  s_ret rfl rfl
theorem b_X11_fault_0 {d : Nat} {I : Nat → Nat → Int} {S : PS} {a0 : Nat} : Ev d mX11_fault (0, [some (vR (some (21, 0, a0)))], [], (I, S)) (.inl (some (vI (I a0 15))), (I, S)) :=
  s_aload_n rfl rfl rfl <|
  s_getI rfl rfl rfl <|
  s_ret rfl rfl
theorem b_X11_count_0 {d : Nat} {r : PO × PM} {I : Nat → Nat → Int} {S : PS} {a0 : Nat} {x1 : Int} (k0 : x1 = 0 → Ev d mX11_count (84, [some (vR (some (21, 0, a0))), some (vI x1)], [], (I, S)) r) (k1 : x1 = 1 → Ev d mX11_count (92, [some (vR (some (21, 0, a0))), some (vI x1)], [], (I, S)) r) (k2 : x1 = 2 → Ev d mX11_count (103, [some (vR (some (21, 0, a0))), some (vI x1)], [], (I, S)) r) (k3 : x1 = 3 → Ev d mX11_count (111, [some (vR (some (21, 0, a0))), some (vI x1)], [], (I, S)) r) (k4 : x1 = 4 → Ev d mX11_count (122, [some (vR (some (21, 0, a0))), some (vI x1)], [], (I, S)) r) (k5 : x1 = 5 → Ev d mX11_count (127, [some (vR (some (21, 0, a0))), some (vI x1)], [], (I, S)) r) (k6 : x1 = 6 → Ev d mX11_count (132, [some (vR (some (21, 0, a0))), some (vI x1)], [], (I, S)) r) (k7 : x1 = 7 → Ev d mX11_count (140, [some (vR (some (21, 0, a0))), some (vI x1)], [], (I, S)) r) (k8 : x1 = 8 → Ev d mX11_count (153, [some (vR (some (21, 0, a0))), some (vI x1)], [], (I, S)) r) (k9 : x1 = 9 → Ev d mX11_count (161, [some (vR (some (21, 0, a0))), some (vI x1)], [], (I, S)) r) (k10 : x1 = 10 → Ev d mX11_count (169, [some (vR (some (21, 0, a0))), some (vI x1)], [], (I, S)) r) (k11 : x1 = 11 → Ev d mX11_count (177, [some (vR (some (21, 0, a0))), some (vI x1)], [], (I, S)) r) (k12 : x1 = 12 → Ev d mX11_count (185, [some (vR (some (21, 0, a0))), some (vI x1)], [], (I, S)) r) (k13 : x1 = 13 → Ev d mX11_count (193, [some (vR (some (21, 0, a0))), some (vI x1)], [], (I, S)) r) (k14 : x1 = 14 → Ev d mX11_count (198, [some (vR (some (21, 0, a0))), some (vI x1)], [], (I, S)) r) (k15 : x1 = 15 → Ev d mX11_count (205, [some (vR (some (21, 0, a0))), some (vI x1)], [], (I, S)) r) (k16 : x1 = 16 → Ev d mX11_count (212, [some (vR (some (21, 0, a0))), some (vI x1)], [], (I, S)) r) (kd : ¬(0 ≤ x1 ∧ x1 ≤ 16) → Ev d mX11_count (219, [some (vR (some (21, 0, a0))), some (vI x1)], [], (I, S)) r) : Ev d mX11_count (0, [some (vR (some (21, 0, a0))), some (vI x1)], [], (I, S)) r :=
  s_iload_n rfl rfl rfl <|
  s_sw 219 rfl (by decide) (fun c => kd c) (fun j hj => by
  match j, hj with
  | 0, _ => exact fun c => k0 c
  | 1, _ => exact fun c => k1 c
  | 2, _ => exact fun c => k2 c
  | 3, _ => exact fun c => k3 c
  | 4, _ => exact fun c => k4 c
  | 5, _ => exact fun c => k5 c
  | 6, _ => exact fun c => k6 c
  | 7, _ => exact fun c => k7 c
  | 8, _ => exact fun c => k8 c
  | 9, _ => exact fun c => k9 c
  | 10, _ => exact fun c => k10 c
  | 11, _ => exact fun c => k11 c
  | 12, _ => exact fun c => k12 c
  | 13, _ => exact fun c => k13 c
  | 14, _ => exact fun c => k14 c
  | 15, _ => exact fun c => k15 c
  | 16, _ => exact fun c => k16 c
  | j + 17, hj => exact absurd hj (by simp))
theorem b_X11_count_84 {d : Nat} {I : Nat → Nat → Int} {S : PS} {a0 p1 : Nat} {x1 : Int} (hr1 : S.1 a0 2 = some (11, 0, p1)) : Ev d mX11_count (84, [some (vR (some (21, 0, a0))), some (vI x1)], [], (I, S)) (.inl (some (vI (I p1 1))), (I, S)) :=
  s_aload_n rfl rfl rfl <|
  s_getR rfl rfl rfl hr1 <|
  s_getI rfl rfl rfl <|
  s_ret rfl rfl
theorem b_X11_count_92 {d : Nat} {I : Nat → Nat → Int} {S : PS} {a0 p1 p2 : Nat} {x1 : Int} (hr1 : S.1 a0 2 = some (11, 0, p1)) (hr2 : S.1 p1 2 = some (17, 0, p2)) : Ev d mX11_count (92, [some (vR (some (21, 0, a0))), some (vI x1)], [], (I, S)) (.inl (some (vI (I p2 0))), (I, S)) :=
  s_aload_n rfl rfl rfl <|
  s_getR rfl rfl rfl hr1 <|
  s_getR rfl rfl rfl hr2 <|
  s_getI rfl rfl rfl <|
  s_ret rfl rfl
theorem b_X11_count_103 {d : Nat} {I : Nat → Nat → Int} {S : PS} {a0 p1 : Nat} {x1 : Int} (hr1 : S.1 a0 2 = some (11, 0, p1)) : Ev d mX11_count (103, [some (vR (some (21, 0, a0))), some (vI x1)], [], (I, S)) (.inl (some (vI (I p1 6))), (I, S)) :=
  s_aload_n rfl rfl rfl <|
  s_getR rfl rfl rfl hr1 <|
  s_getI rfl rfl rfl <|
  s_ret rfl rfl
theorem b_X11_count_111 {d : Nat} {r : PO × PM} {I : Nat → Nat → Int} {S : PS} {a0 p1 p2 : Nat} {x1 z : Int} {I1 : Nat → Nat → Int} {S1 : PS} (hr1 : S.1 a0 6 = some (19, 0, p1)) (hr2 : S.1 p1 0 = some (13, 0, p2)) (c : Ca d mX2_paintedCount [vR (some (13, 0, p2))] (I, S) (.inl (some (vI z))) (I1, S1)) (k : Ev (d + 1) mX11_count (121, [some (vR (some (21, 0, a0))), some (vI x1)], [vI z], (I1, S1)) r) : Ev (d + 1) mX11_count (111, [some (vR (some (21, 0, a0))), some (vI x1)], [], (I, S)) r :=
  s_aload_n rfl rfl rfl <|
  s_getR rfl rfl rfl hr1 <|
  s_getR rfl rfl rfl hr2 <|
  s_cvI rfl rfl rfl rfl rfl c k
theorem b_X11_count_121 {d : Nat} {I : Nat → Nat → Int} {S : PS} {a0 : Nat} {x1 xs0 : Int} : Ev d mX11_count (121, [some (vR (some (21, 0, a0))), some (vI x1)], [vI xs0], (I, S)) (.inl (some (vI xs0)), (I, S)) :=
  s_ret rfl rfl
theorem b_X11_count_122 {d : Nat} {r : PO × PM} {I : Nat → Nat → Int} {S : PS} {a0 : Nat} {x1 z : Int} {I1 : Nat → Nat → Int} {S1 : PS} (c : Ca d mX11_chargeAhead [vR (some (21, 0, a0))] (I, S) (.inl (some (vI z))) (I1, S1)) (k : Ev (d + 1) mX11_count (126, [some (vR (some (21, 0, a0))), some (vI x1)], [vI z], (I1, S1)) r) : Ev (d + 1) mX11_count (122, [some (vR (some (21, 0, a0))), some (vI x1)], [], (I, S)) r :=
  s_aload_n rfl rfl rfl <|
  s_cvI rfl rfl rfl rfl rfl c k
theorem b_X11_count_126 {d : Nat} {I : Nat → Nat → Int} {S : PS} {a0 : Nat} {x1 xs0 : Int} : Ev d mX11_count (126, [some (vR (some (21, 0, a0))), some (vI x1)], [vI xs0], (I, S)) (.inl (some (vI xs0)), (I, S)) :=
  s_ret rfl rfl
theorem b_X11_count_127 {d : Nat} {r : PO × PM} {I : Nat → Nat → Int} {S : PS} {a0 : Nat} {x1 z : Int} {I1 : Nat → Nat → Int} {S1 : PS} (c : Ca d mX11_chargeBehind [vR (some (21, 0, a0))] (I, S) (.inl (some (vI z))) (I1, S1)) (k : Ev (d + 1) mX11_count (131, [some (vR (some (21, 0, a0))), some (vI x1)], [vI z], (I1, S1)) r) : Ev (d + 1) mX11_count (127, [some (vR (some (21, 0, a0))), some (vI x1)], [], (I, S)) r :=
  s_aload_n rfl rfl rfl <|
  s_cvI rfl rfl rfl rfl rfl c k
theorem b_X11_count_131 {d : Nat} {I : Nat → Nat → Int} {S : PS} {a0 : Nat} {x1 xs0 : Int} : Ev d mX11_count (131, [some (vR (some (21, 0, a0))), some (vI x1)], [vI xs0], (I, S)) (.inl (some (vI xs0)), (I, S)) :=
  s_ret rfl rfl
theorem b_X11_count_132 {d : Nat} {r : PO × PM} {I : Nat → Nat → Int} {S : PS} {a0 : Nat} {x1 z : Int} {I1 : Nat → Nat → Int} {S1 : PS} (c : Ca d mX11_positiveSpots [vR (some (21, 0, a0))] (I, S) (.inl (some (vI z))) (I1, S1)) (k : Ev (d + 1) mX11_count (136, [some (vR (some (21, 0, a0))), some (vI x1)], [vI z], (I1, S1)) r) : Ev (d + 1) mX11_count (132, [some (vR (some (21, 0, a0))), some (vI x1)], [], (I, S)) r :=
  s_aload_n rfl rfl rfl <|
  s_cvI rfl rfl rfl rfl rfl c k
theorem b_X11_count_136 {d : Nat} {r : PO × PM} {I : Nat → Nat → Int} {S : PS} {a0 : Nat} {x1 xs0 z : Int} {I1 : Nat → Nat → Int} {S1 : PS} (c : Ca d mJ6_bitCount_0f7a4 [vI xs0] (I, S) (.inl (some (vI z))) (I1, S1)) (k : Ev (d + 1) mX11_count (139, [some (vR (some (21, 0, a0))), some (vI x1)], [vI z], (I1, S1)) r) : Ev (d + 1) mX11_count (136, [some (vR (some (21, 0, a0))), some (vI x1)], [vI xs0], (I, S)) r :=
  s_csI rfl rfl rfl rfl rfl rfl c k
theorem b_X11_count_139 {d : Nat} {I : Nat → Nat → Int} {S : PS} {a0 : Nat} {x1 xs0 : Int} : Ev d mX11_count (139, [some (vR (some (21, 0, a0))), some (vI x1)], [vI xs0], (I, S)) (.inl (some (vI xs0)), (I, S)) :=
  s_ret rfl rfl
theorem b_X11_count_140 {d : Nat} {r : PO × PM} {I : Nat → Nat → Int} {S : PS} {a0 : Nat} {x1 z : Int} {I1 : Nat → Nat → Int} {S1 : PS} (c : Ca d mX11_positiveSpots [vR (some (21, 0, a0))] (I, S) (.inl (some (vI z))) (I1, S1)) (k : Ev (d + 1) mX11_count (145, [some (vR (some (21, 0, a0))), some (vI x1)], [vI z, vR (some (21, 0, a0))], (I1, S1)) r) : Ev (d + 1) mX11_count (140, [some (vR (some (21, 0, a0))), some (vI x1)], [], (I, S)) r :=
  s_aload_n rfl rfl rfl <|
  s_aload_n rfl rfl rfl <|
  s_cvI rfl rfl rfl rfl rfl c k
theorem b_X11_count_145 {d : Nat} {r : PO × PM} {I : Nat → Nat → Int} {S : PS} {a0 as0 : Nat} {x1 xs1 z : Int} {I1 : Nat → Nat → Int} {S1 : PS} (c : Ca d mX11_reduciblePieces [vR (some (21, 0, a0))] (I, S) (.inl (some (vI z))) (I1, S1)) (k : Ev (d + 1) mX11_count (149, [some (vR (some (21, 0, a0))), some (vI x1)], [vI z, vI xs1, vR (some (21, 0, as0))], (I1, S1)) r) : Ev (d + 1) mX11_count (145, [some (vR (some (21, 0, a0))), some (vI x1)], [vI xs1, vR (some (21, 0, as0))], (I, S)) r :=
  s_aload_n rfl rfl rfl <|
  s_cvI rfl rfl rfl rfl rfl c k
theorem b_X11_count_149 {d : Nat} {r : PO × PM} {I : Nat → Nat → Int} {S : PS} {a0 as0 : Nat} {x1 xs1 xs2 z : Int} {I1 : Nat → Nat → Int} {S1 : PS} (c : Ca d mX11_openSpots [vR (some (21, 0, as0)), vI xs1, vI xs2] (I, S) (.inl (some (vI z))) (I1, S1)) (k : Ev (d + 1) mX11_count (152, [some (vR (some (21, 0, a0))), some (vI x1)], [vI z], (I1, S1)) r) : Ev (d + 1) mX11_count (149, [some (vR (some (21, 0, a0))), some (vI x1)], [vI xs2, vI xs1, vR (some (21, 0, as0))], (I, S)) r :=
  s_cvI rfl rfl rfl rfl rfl c k
theorem b_X11_count_152 {d : Nat} {I : Nat → Nat → Int} {S : PS} {a0 : Nat} {x1 xs0 : Int} : Ev d mX11_count (152, [some (vR (some (21, 0, a0))), some (vI x1)], [vI xs0], (I, S)) (.inl (some (vI xs0)), (I, S)) :=
  s_ret rfl rfl
theorem b_X11_count_153 {d : Nat} {I : Nat → Nat → Int} {S : PS} {a0 p1 : Nat} {x1 : Int} (hr1 : S.1 a0 10 = some (15, 0, p1)) : Ev d mX11_count (153, [some (vR (some (21, 0, a0))), some (vI x1)], [], (I, S)) (.inl (some (vI (I p1 4))), (I, S)) :=
  s_aload_n rfl rfl rfl <|
  s_getR rfl rfl rfl hr1 <|
  s_getI rfl rfl rfl <|
  s_ret rfl rfl
theorem b_X11_count_161 {d : Nat} {I : Nat → Nat → Int} {S : PS} {a0 p1 : Nat} {x1 : Int} (hr1 : S.1 a0 10 = some (15, 0, p1)) : Ev d mX11_count (161, [some (vR (some (21, 0, a0))), some (vI x1)], [], (I, S)) (.inl (some (vI (I p1 3))), (I, S)) :=
  s_aload_n rfl rfl rfl <|
  s_getR rfl rfl rfl hr1 <|
  s_getI rfl rfl rfl <|
  s_ret rfl rfl
theorem b_X11_count_169 {d : Nat} {I : Nat → Nat → Int} {S : PS} {a0 p1 : Nat} {x1 : Int} (hr1 : S.1 a0 10 = some (15, 0, p1)) : Ev d mX11_count (169, [some (vR (some (21, 0, a0))), some (vI x1)], [], (I, S)) (.inl (some (vI (I p1 5))), (I, S)) :=
  s_aload_n rfl rfl rfl <|
  s_getR rfl rfl rfl hr1 <|
  s_getI rfl rfl rfl <|
  s_ret rfl rfl
theorem b_X11_count_177 {d : Nat} {I : Nat → Nat → Int} {S : PS} {a0 p1 : Nat} {x1 : Int} (hr1 : S.1 a0 6 = some (19, 0, p1)) : Ev d mX11_count (177, [some (vR (some (21, 0, a0))), some (vI x1)], [], (I, S)) (.inl (some (vI (I p1 2))), (I, S)) :=
  s_aload_n rfl rfl rfl <|
  s_getR rfl rfl rfl hr1 <|
  s_getI rfl rfl rfl <|
  s_ret rfl rfl
theorem b_X11_count_185 {d : Nat} {I : Nat → Nat → Int} {S : PS} {a0 p1 : Nat} {x1 : Int} (hr1 : S.1 a0 6 = some (19, 0, p1)) : Ev d mX11_count (185, [some (vR (some (21, 0, a0))), some (vI x1)], [], (I, S)) (.inl (some (vI (I p1 6))), (I, S)) :=
  s_aload_n rfl rfl rfl <|
  s_getR rfl rfl rfl hr1 <|
  s_getI rfl rfl rfl <|
  s_ret rfl rfl
theorem b_X11_count_193 {d : Nat} {I : Nat → Nat → Int} {S : PS} {a0 : Nat} {x1 : Int} : Ev d mX11_count (193, [some (vR (some (21, 0, a0))), some (vI x1)], [], (I, S)) (.inl (some (vI (I a0 1))), (I, S)) :=
  s_aload_n rfl rfl rfl <|
  s_getI rfl rfl rfl <|
  s_ret rfl rfl
theorem b_X11_count_198 {d : Nat} {I : Nat → Nat → Int} {S : PS} {a0 p1 q1 : Nat} {x1 : Int} (hr1 : S.1 a0 14 = some (0, q1, p1)) (hi2 : 0 < q1) : Ev d mX11_count (198, [some (vR (some (21, 0, a0))), some (vI x1)], [], (I, S)) (.inl (some (vI (I p1 0))), (I, S)) :=
  s_aload_n rfl rfl rfl <|
  s_getR rfl rfl rfl hr1 <|
  s_iconst rfl rfl <|
  s_iald rfl rfl (p_lit (k := 0) hi2) <|
  s_ret rfl rfl
theorem b_X11_count_205 {d : Nat} {I : Nat → Nat → Int} {S : PS} {a0 p1 q1 : Nat} {x1 : Int} (hr1 : S.1 a0 14 = some (0, q1, p1)) (hi2 : 1 < q1) : Ev d mX11_count (205, [some (vR (some (21, 0, a0))), some (vI x1)], [], (I, S)) (.inl (some (vI (I p1 1))), (I, S)) :=
  s_aload_n rfl rfl rfl <|
  s_getR rfl rfl rfl hr1 <|
  s_iconst rfl rfl <|
  s_iald rfl rfl (p_lit (k := 1) hi2) <|
  s_ret rfl rfl
theorem b_X11_count_212 {d : Nat} {I : Nat → Nat → Int} {S : PS} {a0 p1 q1 : Nat} {x1 : Int} (hr1 : S.1 a0 14 = some (0, q1, p1)) (hi2 : 2 < q1) : Ev d mX11_count (212, [some (vR (some (21, 0, a0))), some (vI x1)], [], (I, S)) (.inl (some (vI (I p1 2))), (I, S)) :=
  s_aload_n rfl rfl rfl <|
  s_getR rfl rfl rfl hr1 <|
  s_iconst rfl rfl <|
  s_iald rfl rfl (p_lit (k := 2) hi2) <|
  s_ret rfl rfl
theorem b_X11_count_219 {d : Nat} {I : Nat → Nat → Int} {S : PS} {a0 : Nat} {x1 : Int} : Ev d mX11_count (219, [some (vR (some (21, 0, a0))), some (vI x1)], [], (I, S)) (.inr 1, (I, exS S)) :=
  s_throw rfl rfl rfl rfl rfl rfl rfl
theorem b_X11_piece_0 {d : Nat} {r : PO × PM} {I : Nat → Nat → Int} {S : PS} {a0 z : Nat} {x1 x2 : Int} {I1 : Nat → Nat → Int} {S1 : PS} (c : Ca d mX11_pieceAt [vR (some (21, 0, a0)), vI x1] (I, S) (.inl (some (vR (some (14, 0, z))))) (I1, S1)) (k : Ev (d + 1) mX11_piece (5, [some (vR (some (21, 0, a0))), some (vI x1), some (vI x2), none], [vR (some (14, 0, z))], (I1, S1)) r) : Ev (d + 1) mX11_piece (0, [some (vR (some (21, 0, a0))), some (vI x1), some (vI x2), none], [], (I, S)) r :=
  s_aload_n rfl rfl rfl <|
  s_iload_n rfl rfl rfl <|
  s_cvR rfl rfl rfl rfl rfl c k
theorem bt_X11_piece_0 {d e : Nat} {I : Nat → Nat → Int} {S : PS} {h1 : PM} {a0 : Nat} {x1 x2 : Int} (c : Ca d mX11_pieceAt [vR (some (21, 0, a0)), vI x1] (I, S) (.inr e) h1) (hh : p_hnd mX11_piece 2 e [some (vR (some (21, 0, a0))), some (vI x1), some (vI x2), none] = some none) : Ev (d + 1) mX11_piece (0, [some (vR (some (21, 0, a0))), some (vI x1), some (vI x2), none], [], (I, S)) (.inr e, h1) :=
  s_aload_n rfl rfl rfl <|
  s_iload_n rfl rfl rfl <|
  s_cvT rfl rfl rfl rfl rfl c hh
theorem b_X11_piece_5 {d : Nat} {r : PO × PM} {I : Nat → Nat → Int} {S : PS} {a0 as0 : Nat} {x1 x2 : Int} (k0 : x2 = 0 → Ev d mX11_piece (72, [some (vR (some (21, 0, a0))), some (vI x1), some (vI x2), some (vR (some (14, 0, as0)))], [], (I, S)) r) (k1 : x2 = 1 → Ev d mX11_piece (77, [some (vR (some (21, 0, a0))), some (vI x1), some (vI x2), some (vR (some (14, 0, as0)))], [], (I, S)) r) (k2 : x2 = 2 → Ev d mX11_piece (82, [some (vR (some (21, 0, a0))), some (vI x1), some (vI x2), some (vR (some (14, 0, as0)))], [], (I, S)) r) (k3 : x2 = 3 → Ev d mX11_piece (87, [some (vR (some (21, 0, a0))), some (vI x1), some (vI x2), some (vR (some (14, 0, as0)))], [], (I, S)) r) (k4 : x2 = 4 → Ev d mX11_piece (92, [some (vR (some (21, 0, a0))), some (vI x1), some (vI x2), some (vR (some (14, 0, as0)))], [], (I, S)) r) (k5 : x2 = 5 → Ev d mX11_piece (97, [some (vR (some (21, 0, a0))), some (vI x1), some (vI x2), some (vR (some (14, 0, as0)))], [], (I, S)) r) (k6 : x2 = 6 → Ev d mX11_piece (106, [some (vR (some (21, 0, a0))), some (vI x1), some (vI x2), some (vR (some (14, 0, as0)))], [], (I, S)) r) (k7 : x2 = 7 → Ev d mX11_piece (119, [some (vR (some (21, 0, a0))), some (vI x1), some (vI x2), some (vR (some (14, 0, as0)))], [], (I, S)) r) (k8 : x2 = 8 → Ev d mX11_piece (132, [some (vR (some (21, 0, a0))), some (vI x1), some (vI x2), some (vR (some (14, 0, as0)))], [], (I, S)) r) (k9 : x2 = 9 → Ev d mX11_piece (141, [some (vR (some (21, 0, a0))), some (vI x1), some (vI x2), some (vR (some (14, 0, as0)))], [], (I, S)) r) (k10 : x2 = 10 → Ev d mX11_piece (158, [some (vR (some (21, 0, a0))), some (vI x1), some (vI x2), some (vR (some (14, 0, as0)))], [], (I, S)) r) (k11 : x2 = 11 → Ev d mX11_piece (163, [some (vR (some (21, 0, a0))), some (vI x1), some (vI x2), some (vR (some (14, 0, as0)))], [], (I, S)) r) (k12 : x2 = 12 → Ev d mX11_piece (176, [some (vR (some (21, 0, a0))), some (vI x1), some (vI x2), some (vR (some (14, 0, as0)))], [], (I, S)) r) (kd : ¬(0 ≤ x2 ∧ x2 ≤ 12) → Ev d mX11_piece (193, [some (vR (some (21, 0, a0))), some (vI x1), some (vI x2), some (vR (some (14, 0, as0)))], [], (I, S)) r) : Ev d mX11_piece (5, [some (vR (some (21, 0, a0))), some (vI x1), some (vI x2), none], [vR (some (14, 0, as0))], (I, S)) r :=
  s_astore_n [some (vR (some (21, 0, a0))), some (vI x1), some (vI x2), some (vR (some (14, 0, as0)))] rfl rfl <|
  s_iload_n rfl rfl rfl <|
  s_sw 193 rfl (by decide) (fun c => kd c) (fun j hj => by
  match j, hj with
  | 0, _ => exact fun c => k0 c
  | 1, _ => exact fun c => k1 c
  | 2, _ => exact fun c => k2 c
  | 3, _ => exact fun c => k3 c
  | 4, _ => exact fun c => k4 c
  | 5, _ => exact fun c => k5 c
  | 6, _ => exact fun c => k6 c
  | 7, _ => exact fun c => k7 c
  | 8, _ => exact fun c => k8 c
  | 9, _ => exact fun c => k9 c
  | 10, _ => exact fun c => k10 c
  | 11, _ => exact fun c => k11 c
  | 12, _ => exact fun c => k12 c
  | j + 13, hj => exact absurd hj (by simp))
theorem b_X11_piece_72 {d : Nat} {I : Nat → Nat → Int} {S : PS} {a0 a3 : Nat} {x1 x2 : Int} : Ev d mX11_piece (72, [some (vR (some (21, 0, a0))), some (vI x1), some (vI x2), some (vR (some (14, 0, a3)))], [], (I, S)) (.inl (some (vI (I a3 0))), (I, S)) :=
  s_aload_n rfl rfl rfl <|
  s_getI rfl rfl rfl <|
  s_ret rfl rfl
theorem b_X11_piece_77 {d : Nat} {I : Nat → Nat → Int} {S : PS} {a0 a3 : Nat} {x1 x2 : Int} : Ev d mX11_piece (77, [some (vR (some (21, 0, a0))), some (vI x1), some (vI x2), some (vR (some (14, 0, a3)))], [], (I, S)) (.inl (some (vI (I a3 1))), (I, S)) :=
  s_aload_n rfl rfl rfl <|
  s_getI rfl rfl rfl <|
  s_ret rfl rfl
theorem b_X11_piece_82 {d : Nat} {I : Nat → Nat → Int} {S : PS} {a0 a3 : Nat} {x1 x2 : Int} : Ev d mX11_piece (82, [some (vR (some (21, 0, a0))), some (vI x1), some (vI x2), some (vR (some (14, 0, a3)))], [], (I, S)) (.inl (some (vI (I a3 3))), (I, S)) :=
  s_aload_n rfl rfl rfl <|
  s_getI rfl rfl rfl <|
  s_ret rfl rfl
theorem b_X11_piece_87 {d : Nat} {I : Nat → Nat → Int} {S : PS} {a0 a3 : Nat} {x1 x2 : Int} : Ev d mX11_piece (87, [some (vR (some (21, 0, a0))), some (vI x1), some (vI x2), some (vR (some (14, 0, a3)))], [], (I, S)) (.inl (some (vI (I a3 4))), (I, S)) :=
  s_aload_n rfl rfl rfl <|
  s_getI rfl rfl rfl <|
  s_ret rfl rfl
theorem b_X11_piece_92 {d : Nat} {r : PO × PM} {I : Nat → Nat → Int} {S : PS} {a0 a3 : Nat} {x1 x2 z : Int} {I1 : Nat → Nat → Int} {S1 : PS} (c : Ca d mX3_edgeCount [vR (some (14, 0, a3))] (I, S) (.inl (some (vI z))) (I1, S1)) (k : Ev (d + 1) mX11_piece (96, [some (vR (some (21, 0, a0))), some (vI x1), some (vI x2), some (vR (some (14, 0, a3)))], [vI z], (I1, S1)) r) : Ev (d + 1) mX11_piece (92, [some (vR (some (21, 0, a0))), some (vI x1), some (vI x2), some (vR (some (14, 0, a3)))], [], (I, S)) r :=
  s_aload_n rfl rfl rfl <|
  s_cvI rfl rfl rfl rfl rfl c k
theorem b_X11_piece_96 {d : Nat} {I : Nat → Nat → Int} {S : PS} {a0 a3 : Nat} {x1 x2 xs0 : Int} : Ev d mX11_piece (96, [some (vR (some (21, 0, a0))), some (vI x1), some (vI x2), some (vR (some (14, 0, a3)))], [vI xs0], (I, S)) (.inl (some (vI xs0)), (I, S)) :=
  s_ret rfl rfl
theorem b_X11_piece_97 {d : Nat} {r : PO × PM} {I : Nat → Nat → Int} {S : PS} {a0 a3 z : Nat} {x1 x2 : Int} {I1 : Nat → Nat → Int} {S1 : PS} (c : Ca d mX11_ringOf [vR (some (21, 0, a0)), vR (some (14, 0, a3))] (I, S) (.inl (some (vR (some (16, 0, z))))) (I1, S1)) (k : Ev (d + 1) mX11_piece (102, [some (vR (some (21, 0, a0))), some (vI x1), some (vI x2), some (vR (some (14, 0, a3)))], [vR (some (16, 0, z))], (I1, S1)) r) : Ev (d + 1) mX11_piece (97, [some (vR (some (21, 0, a0))), some (vI x1), some (vI x2), some (vR (some (14, 0, a3)))], [], (I, S)) r :=
  s_aload_n rfl rfl rfl <|
  s_aload_n rfl rfl rfl <|
  s_cvR rfl rfl rfl rfl rfl c k
theorem b_X11_piece_102 {d : Nat} {I : Nat → Nat → Int} {S : PS} {a0 a3 as0 : Nat} {x1 x2 : Int} : Ev d mX11_piece (102, [some (vR (some (21, 0, a0))), some (vI x1), some (vI x2), some (vR (some (14, 0, a3)))], [vR (some (16, 0, as0))], (I, S)) (.inl (some (vI (I as0 1))), (I, S)) :=
  s_getI rfl rfl rfl <|
  s_ret rfl rfl
theorem b_X11_piece_106 {d : Nat} {r : PO × PM} {I : Nat → Nat → Int} {S : PS} {a0 a3 z : Nat} {x1 x2 : Int} {I1 : Nat → Nat → Int} {S1 : PS} (c : Ca d mX11_studied [vR (some (21, 0, a0)), vR (some (14, 0, a3))] (I, S) (.inl (some (vR (some (14, 0, z))))) (I1, S1)) (k : Ev (d + 1) mX11_piece (111, [some (vR (some (21, 0, a0))), some (vI x1), some (vI x2), some (vR (some (14, 0, a3)))], [vR (some (14, 0, z))], (I1, S1)) r) : Ev (d + 1) mX11_piece (106, [some (vR (some (21, 0, a0))), some (vI x1), some (vI x2), some (vR (some (14, 0, a3)))], [], (I, S)) r :=
  s_aload_n rfl rfl rfl <|
  s_aload_n rfl rfl rfl <|
  s_cvR rfl rfl rfl rfl rfl c k
theorem b_X11_piece_111 {d : Nat} {r : PO × PM} {I : Nat → Nat → Int} {S : PS} {a0 a3 as0 p1 q1 : Nat} {x1 x2 z : Int} {I1 : Nat → Nat → Int} {S1 : PS} (hr1 : S.1 a3 11 = some (0, q1, p1)) (c : Ca d mX3_sizeOf [vR (some (14, 0, as0)), vR (some (0, q1, p1))] (I, S) (.inl (some (vI z))) (I1, S1)) (k : Ev (d + 1) mX11_piece (118, [some (vR (some (21, 0, a0))), some (vI x1), some (vI x2), some (vR (some (14, 0, a3)))], [vI z], (I1, S1)) r) : Ev (d + 1) mX11_piece (111, [some (vR (some (21, 0, a0))), some (vI x1), some (vI x2), some (vR (some (14, 0, a3)))], [vR (some (14, 0, as0))], (I, S)) r :=
  s_aload_n rfl rfl rfl <|
  s_getR rfl rfl rfl hr1 <|
  s_cvI rfl rfl rfl rfl rfl c k
theorem b_X11_piece_118 {d : Nat} {I : Nat → Nat → Int} {S : PS} {a0 a3 : Nat} {x1 x2 xs0 : Int} : Ev d mX11_piece (118, [some (vR (some (21, 0, a0))), some (vI x1), some (vI x2), some (vR (some (14, 0, a3)))], [vI xs0], (I, S)) (.inl (some (vI xs0)), (I, S)) :=
  s_ret rfl rfl
theorem b_X11_piece_119 {d : Nat} {r : PO × PM} {I : Nat → Nat → Int} {S : PS} {a0 a3 z : Nat} {x1 x2 : Int} {I1 : Nat → Nat → Int} {S1 : PS} (c : Ca d mX11_studied [vR (some (21, 0, a0)), vR (some (14, 0, a3))] (I, S) (.inl (some (vR (some (14, 0, z))))) (I1, S1)) (k : Ev (d + 1) mX11_piece (124, [some (vR (some (21, 0, a0))), some (vI x1), some (vI x2), some (vR (some (14, 0, a3)))], [vR (some (14, 0, z))], (I1, S1)) r) : Ev (d + 1) mX11_piece (119, [some (vR (some (21, 0, a0))), some (vI x1), some (vI x2), some (vR (some (14, 0, a3)))], [], (I, S)) r :=
  s_aload_n rfl rfl rfl <|
  s_aload_n rfl rfl rfl <|
  s_cvR rfl rfl rfl rfl rfl c k
theorem b_X11_piece_124 {d : Nat} {r : PO × PM} {I : Nat → Nat → Int} {S : PS} {a0 a3 as0 p1 q1 : Nat} {x1 x2 z : Int} {I1 : Nat → Nat → Int} {S1 : PS} (hr1 : S.1 a3 12 = some (0, q1, p1)) (c : Ca d mX3_sizeOf [vR (some (14, 0, as0)), vR (some (0, q1, p1))] (I, S) (.inl (some (vI z))) (I1, S1)) (k : Ev (d + 1) mX11_piece (131, [some (vR (some (21, 0, a0))), some (vI x1), some (vI x2), some (vR (some (14, 0, a3)))], [vI z], (I1, S1)) r) : Ev (d + 1) mX11_piece (124, [some (vR (some (21, 0, a0))), some (vI x1), some (vI x2), some (vR (some (14, 0, a3)))], [vR (some (14, 0, as0))], (I, S)) r :=
  s_aload_n rfl rfl rfl <|
  s_getR rfl rfl rfl hr1 <|
  s_cvI rfl rfl rfl rfl rfl c k
theorem b_X11_piece_131 {d : Nat} {I : Nat → Nat → Int} {S : PS} {a0 a3 : Nat} {x1 x2 xs0 : Int} : Ev d mX11_piece (131, [some (vR (some (21, 0, a0))), some (vI x1), some (vI x2), some (vR (some (14, 0, a3)))], [vI xs0], (I, S)) (.inl (some (vI xs0)), (I, S)) :=
  s_ret rfl rfl
theorem b_X11_piece_132 {d : Nat} {r : PO × PM} {I : Nat → Nat → Int} {S : PS} {a0 a3 z : Nat} {x1 x2 : Int} {I1 : Nat → Nat → Int} {S1 : PS} (c : Ca d mX11_studied [vR (some (21, 0, a0)), vR (some (14, 0, a3))] (I, S) (.inl (some (vR (some (14, 0, z))))) (I1, S1)) (k : Ev (d + 1) mX11_piece (137, [some (vR (some (21, 0, a0))), some (vI x1), some (vI x2), some (vR (some (14, 0, a3)))], [vR (some (14, 0, z))], (I1, S1)) r) : Ev (d + 1) mX11_piece (132, [some (vR (some (21, 0, a0))), some (vI x1), some (vI x2), some (vR (some (14, 0, a3)))], [], (I, S)) r :=
  s_aload_n rfl rfl rfl <|
  s_aload_n rfl rfl rfl <|
  s_cvR rfl rfl rfl rfl rfl c k
theorem b_X11_piece_137 {d : Nat} {I : Nat → Nat → Int} {S : PS} {a0 a3 as0 : Nat} {x1 x2 : Int} : Ev d mX11_piece (137, [some (vR (some (21, 0, a0))), some (vI x1), some (vI x2), some (vR (some (14, 0, a3)))], [vR (some (14, 0, as0))], (I, S)) (.inl (some (vI (I as0 14))), (I, S)) :=
  s_getI rfl rfl rfl <|
  s_ret rfl rfl
theorem b_X11_piece_141 {d : Nat} {r : PO × PM} {I : Nat → Nat → Int} {S : PS} {a0 a3 z : Nat} {x1 x2 : Int} {I1 : Nat → Nat → Int} {S1 : PS} (c : Ca d mX11_studied [vR (some (21, 0, a0)), vR (some (14, 0, a3))] (I, S) (.inl (some (vR (some (14, 0, z))))) (I1, S1)) (k : Ev (d + 1) mX11_piece (146, [some (vR (some (21, 0, a0))), some (vI x1), some (vI x2), some (vR (some (14, 0, a3)))], [vR (some (14, 0, z))], (I1, S1)) r) : Ev (d + 1) mX11_piece (141, [some (vR (some (21, 0, a0))), some (vI x1), some (vI x2), some (vR (some (14, 0, a3)))], [], (I, S)) r :=
  s_aload_n rfl rfl rfl <|
  s_aload_n rfl rfl rfl <|
  s_cvR rfl rfl rfl rfl rfl c k
theorem b_X11_piece_146 {d : Nat} {r : PO × PM} {I : Nat → Nat → Int} {S : PS} {a0 a3 as0 : Nat} {x1 x2 z : Int} {I1 : Nat → Nat → Int} {S1 : PS} (c : Ca d mX3_isD [vR (some (14, 0, as0))] (I, S) (.inl (some (vI z))) (I1, S1)) (k : Ev (d + 1) mX11_piece (149, [some (vR (some (21, 0, a0))), some (vI x1), some (vI x2), some (vR (some (14, 0, a3)))], [vI z], (I1, S1)) r) : Ev (d + 1) mX11_piece (146, [some (vR (some (21, 0, a0))), some (vI x1), some (vI x2), some (vR (some (14, 0, a3)))], [vR (some (14, 0, as0))], (I, S)) r :=
  s_cvI rfl rfl rfl rfl rfl c k
theorem b_X11_piece_149 {d : Nat} {r : PO × PM} {I : Nat → Nat → Int} {S : PS} {a0 a3 : Nat} {x1 x2 xs0 : Int} (kt : xs0 = 0 → Ev d mX11_piece (156, [some (vR (some (21, 0, a0))), some (vI x1), some (vI x2), some (vR (some (14, 0, a3)))], [], (I, S)) r) (kf : xs0 ≠ 0 → Ev d mX11_piece (152, [some (vR (some (21, 0, a0))), some (vI x1), some (vI x2), some (vR (some (14, 0, a3)))], [], (I, S)) r) : Ev d mX11_piece (149, [some (vR (some (21, 0, a0))), some (vI x1), some (vI x2), some (vR (some (14, 0, a3)))], [vI xs0], (I, S)) r :=
  s_if_eq 156 rfl rfl kt kf
theorem b_X11_piece_152 {d : Nat} {r : PO × PM} {I : Nat → Nat → Int} {S : PS} {a0 a3 : Nat} {x1 x2 : Int} (k : Ev d mX11_piece (157, [some (vR (some (21, 0, a0))), some (vI x1), some (vI x2), some (vR (some (14, 0, a3)))], [vI 1], (I, S)) r) : Ev d mX11_piece (152, [some (vR (some (21, 0, a0))), some (vI x1), some (vI x2), some (vR (some (14, 0, a3)))], [], (I, S)) r :=
  s_iconst rfl rfl <|
  s_goto 157 rfl rfl k
theorem b_X11_piece_156 {d : Nat} {r : PO × PM} {I : Nat → Nat → Int} {S : PS} {a0 a3 : Nat} {x1 x2 : Int} (k : Ev d mX11_piece (157, [some (vR (some (21, 0, a0))), some (vI x1), some (vI x2), some (vR (some (14, 0, a3)))], [vI 0], (I, S)) r) : Ev d mX11_piece (156, [some (vR (some (21, 0, a0))), some (vI x1), some (vI x2), some (vR (some (14, 0, a3)))], [], (I, S)) r :=
  s_iconst rfl rfl <|
  k
theorem b_X11_piece_157 {d : Nat} {I : Nat → Nat → Int} {S : PS} {a0 a3 : Nat} {x1 x2 xs0 : Int} : Ev d mX11_piece (157, [some (vR (some (21, 0, a0))), some (vI x1), some (vI x2), some (vR (some (14, 0, a3)))], [vI xs0], (I, S)) (.inl (some (vI xs0)), (I, S)) :=
  s_ret rfl rfl
theorem b_X11_piece_158 {d : Nat} {I : Nat → Nat → Int} {S : PS} {a0 a3 : Nat} {x1 x2 : Int} : Ev d mX11_piece (158, [some (vR (some (21, 0, a0))), some (vI x1), some (vI x2), some (vR (some (14, 0, a3)))], [], (I, S)) (.inl (some (vI (I a3 6))), (I, S)) :=
  s_aload_n rfl rfl rfl <|
  s_getI rfl rfl rfl <|
  s_ret rfl rfl
theorem b_X11_piece_163 {d : Nat} {r : PO × PM} {I : Nat → Nat → Int} {S : PS} {a0 a3 z : Nat} {x1 x2 : Int} {I1 : Nat → Nat → Int} {S1 : PS} (c : Ca d mX11_studied [vR (some (21, 0, a0)), vR (some (14, 0, a3))] (I, S) (.inl (some (vR (some (14, 0, z))))) (I1, S1)) (k : Ev (d + 1) mX11_piece (168, [some (vR (some (21, 0, a0))), some (vI x1), some (vI x2), some (vR (some (14, 0, a3)))], [vR (some (14, 0, z))], (I1, S1)) r) : Ev (d + 1) mX11_piece (163, [some (vR (some (21, 0, a0))), some (vI x1), some (vI x2), some (vR (some (14, 0, a3)))], [], (I, S)) r :=
  s_aload_n rfl rfl rfl <|
  s_aload_n rfl rfl rfl <|
  s_cvR rfl rfl rfl rfl rfl c k
theorem b_X11_piece_168 {d : Nat} {r : PO × PM} {I : Nat → Nat → Int} {S : PS} {a0 a3 as0 p1 q1 : Nat} {x1 x2 z : Int} {I1 : Nat → Nat → Int} {S1 : PS} (hr1 : S.1 a3 13 = some (0, q1, p1)) (c : Ca d mX3_sizeOf [vR (some (14, 0, as0)), vR (some (0, q1, p1))] (I, S) (.inl (some (vI z))) (I1, S1)) (k : Ev (d + 1) mX11_piece (175, [some (vR (some (21, 0, a0))), some (vI x1), some (vI x2), some (vR (some (14, 0, a3)))], [vI z], (I1, S1)) r) : Ev (d + 1) mX11_piece (168, [some (vR (some (21, 0, a0))), some (vI x1), some (vI x2), some (vR (some (14, 0, a3)))], [vR (some (14, 0, as0))], (I, S)) r :=
  s_aload_n rfl rfl rfl <|
  s_getR rfl rfl rfl hr1 <|
  s_cvI rfl rfl rfl rfl rfl c k
theorem b_X11_piece_175 {d : Nat} {I : Nat → Nat → Int} {S : PS} {a0 a3 : Nat} {x1 x2 xs0 : Int} : Ev d mX11_piece (175, [some (vR (some (21, 0, a0))), some (vI x1), some (vI x2), some (vR (some (14, 0, a3)))], [vI xs0], (I, S)) (.inl (some (vI xs0)), (I, S)) :=
  s_ret rfl rfl
theorem b_X11_piece_176 {d : Nat} {r : PO × PM} {I : Nat → Nat → Int} {S : PS} {a0 a3 z : Nat} {x1 x2 : Int} {I1 : Nat → Nat → Int} {S1 : PS} (c : Ca d mX11_studied [vR (some (21, 0, a0)), vR (some (14, 0, a3))] (I, S) (.inl (some (vR (some (14, 0, z))))) (I1, S1)) (k : Ev (d + 1) mX11_piece (181, [some (vR (some (21, 0, a0))), some (vI x1), some (vI x2), some (vR (some (14, 0, a3)))], [vR (some (14, 0, z))], (I1, S1)) r) : Ev (d + 1) mX11_piece (176, [some (vR (some (21, 0, a0))), some (vI x1), some (vI x2), some (vR (some (14, 0, a3)))], [], (I, S)) r :=
  s_aload_n rfl rfl rfl <|
  s_aload_n rfl rfl rfl <|
  s_cvR rfl rfl rfl rfl rfl c k
theorem b_X11_piece_181 {d : Nat} {r : PO × PM} {I : Nat → Nat → Int} {S : PS} {a0 a3 as0 : Nat} {x1 x2 z : Int} {I1 : Nat → Nat → Int} {S1 : PS} (c : Ca d mX3_isC [vR (some (14, 0, as0))] (I, S) (.inl (some (vI z))) (I1, S1)) (k : Ev (d + 1) mX11_piece (184, [some (vR (some (21, 0, a0))), some (vI x1), some (vI x2), some (vR (some (14, 0, a3)))], [vI z], (I1, S1)) r) : Ev (d + 1) mX11_piece (181, [some (vR (some (21, 0, a0))), some (vI x1), some (vI x2), some (vR (some (14, 0, a3)))], [vR (some (14, 0, as0))], (I, S)) r :=
  s_cvI rfl rfl rfl rfl rfl c k
theorem b_X11_piece_184 {d : Nat} {r : PO × PM} {I : Nat → Nat → Int} {S : PS} {a0 a3 : Nat} {x1 x2 xs0 : Int} (kt : xs0 = 0 → Ev d mX11_piece (191, [some (vR (some (21, 0, a0))), some (vI x1), some (vI x2), some (vR (some (14, 0, a3)))], [], (I, S)) r) (kf : xs0 ≠ 0 → Ev d mX11_piece (187, [some (vR (some (21, 0, a0))), some (vI x1), some (vI x2), some (vR (some (14, 0, a3)))], [], (I, S)) r) : Ev d mX11_piece (184, [some (vR (some (21, 0, a0))), some (vI x1), some (vI x2), some (vR (some (14, 0, a3)))], [vI xs0], (I, S)) r :=
  s_if_eq 191 rfl rfl kt kf
theorem b_X11_piece_187 {d : Nat} {r : PO × PM} {I : Nat → Nat → Int} {S : PS} {a0 a3 : Nat} {x1 x2 : Int} (k : Ev d mX11_piece (192, [some (vR (some (21, 0, a0))), some (vI x1), some (vI x2), some (vR (some (14, 0, a3)))], [vI 1], (I, S)) r) : Ev d mX11_piece (187, [some (vR (some (21, 0, a0))), some (vI x1), some (vI x2), some (vR (some (14, 0, a3)))], [], (I, S)) r :=
  s_iconst rfl rfl <|
  s_goto 192 rfl rfl k
theorem b_X11_piece_191 {d : Nat} {r : PO × PM} {I : Nat → Nat → Int} {S : PS} {a0 a3 : Nat} {x1 x2 : Int} (k : Ev d mX11_piece (192, [some (vR (some (21, 0, a0))), some (vI x1), some (vI x2), some (vR (some (14, 0, a3)))], [vI 0], (I, S)) r) : Ev d mX11_piece (191, [some (vR (some (21, 0, a0))), some (vI x1), some (vI x2), some (vR (some (14, 0, a3)))], [], (I, S)) r :=
  s_iconst rfl rfl <|
  k
theorem b_X11_piece_192 {d : Nat} {I : Nat → Nat → Int} {S : PS} {a0 a3 : Nat} {x1 x2 xs0 : Int} : Ev d mX11_piece (192, [some (vR (some (21, 0, a0))), some (vI x1), some (vI x2), some (vR (some (14, 0, a3)))], [vI xs0], (I, S)) (.inl (some (vI xs0)), (I, S)) :=
  s_ret rfl rfl
theorem b_X11_piece_193 {d : Nat} {I : Nat → Nat → Int} {S : PS} {a0 a3 : Nat} {x1 x2 : Int} : Ev d mX11_piece (193, [some (vR (some (21, 0, a0))), some (vI x1), some (vI x2), some (vR (some (14, 0, a3)))], [], (I, S)) (.inr 1, (I, exS S)) :=
  s_throw rfl rfl rfl rfl rfl rfl rfl
theorem b_X11_vertex_0 {d : Nat} {r : PO × PM} {I : Nat → Nat → Int} {S : PS} {a0 z : Nat} {x1 x2 : Int} {I1 : Nat → Nat → Int} {S1 : PS} (c : Ca d mX11_pieceAt [vR (some (21, 0, a0)), vI x1] (I, S) (.inl (some (vR (some (14, 0, z))))) (I1, S1)) (k : Ev (d + 1) mX11_vertex (5, [some (vR (some (21, 0, a0))), some (vI x1), some (vI x2), none], [vR (some (14, 0, z))], (I1, S1)) r) : Ev (d + 1) mX11_vertex (0, [some (vR (some (21, 0, a0))), some (vI x1), some (vI x2), none], [], (I, S)) r :=
  s_aload_n rfl rfl rfl <|
  s_iload_n rfl rfl rfl <|
  s_cvR rfl rfl rfl rfl rfl c k
theorem bt_X11_vertex_0 {d e : Nat} {I : Nat → Nat → Int} {S : PS} {h1 : PM} {a0 : Nat} {x1 x2 : Int} (c : Ca d mX11_pieceAt [vR (some (21, 0, a0)), vI x1] (I, S) (.inr e) h1) (hh : p_hnd mX11_vertex 2 e [some (vR (some (21, 0, a0))), some (vI x1), some (vI x2), none] = some none) : Ev (d + 1) mX11_vertex (0, [some (vR (some (21, 0, a0))), some (vI x1), some (vI x2), none], [], (I, S)) (.inr e, h1) :=
  s_aload_n rfl rfl rfl <|
  s_iload_n rfl rfl rfl <|
  s_cvT rfl rfl rfl rfl rfl c hh
theorem b_X11_vertex_5 {d : Nat} {r : PO × PM} {I : Nat → Nat → Int} {S : PS} {a0 as0 : Nat} {x1 x2 : Int} (kt : x2 < 0 → Ev d mX11_vertex (18, [some (vR (some (21, 0, a0))), some (vI x1), some (vI x2), some (vR (some (14, 0, as0)))], [], (I, S)) r) (kf : 0 ≤ x2 → Ev d mX11_vertex (10, [some (vR (some (21, 0, a0))), some (vI x1), some (vI x2), some (vR (some (14, 0, as0)))], [], (I, S)) r) : Ev d mX11_vertex (5, [some (vR (some (21, 0, a0))), some (vI x1), some (vI x2), none], [vR (some (14, 0, as0))], (I, S)) r :=
  s_astore_n [some (vR (some (21, 0, a0))), some (vI x1), some (vI x2), some (vR (some (14, 0, as0)))] rfl rfl <|
  s_iload_n rfl rfl rfl <|
  s_if_lt 18 rfl rfl kt kf
theorem b_X11_vertex_10 {d : Nat} {r : PO × PM} {I : Nat → Nat → Int} {S : PS} {a0 a3 : Nat} {x1 x2 : Int} (kt : x2 < I a3 4 → Ev d mX11_vertex (26, [some (vR (some (21, 0, a0))), some (vI x1), some (vI x2), some (vR (some (14, 0, a3)))], [], (I, S)) r) (kf : I a3 4 ≤ x2 → Ev d mX11_vertex (18, [some (vR (some (21, 0, a0))), some (vI x1), some (vI x2), some (vR (some (14, 0, a3)))], [], (I, S)) r) : Ev d mX11_vertex (10, [some (vR (some (21, 0, a0))), some (vI x1), some (vI x2), some (vR (some (14, 0, a3)))], [], (I, S)) r :=
  s_iload_n rfl rfl rfl <|
  s_aload_n rfl rfl rfl <|
  s_getI rfl rfl rfl <|
  s_icmp_lt 26 rfl rfl kt kf
theorem b_X11_vertex_18 {d : Nat} {I : Nat → Nat → Int} {S : PS} {a0 a3 : Nat} {x1 x2 : Int} : Ev d mX11_vertex (18, [some (vR (some (21, 0, a0))), some (vI x1), some (vI x2), some (vR (some (14, 0, a3)))], [], (I, S)) (.inr 1, (I, exS S)) :=
  s_throw rfl rfl rfl rfl rfl rfl rfl
theorem b_X11_vertex_26 {d : Nat} {I : Nat → Nat → Int} {S : PS} {a0 a3 p1 q1 : Nat} {x1 x2 : Int} (hr1 : S.1 a3 5 = some (0, q1, p1)) (hi2 : 0 ≤ x2 ∧ x2 < (q1 : Nat)) : Ev d mX11_vertex (26, [some (vR (some (21, 0, a0))), some (vI x1), some (vI x2), some (vR (some (14, 0, a3)))], [], (I, S)) (.inl (some (vI (I p1 x2.toNat))), (I, S)) :=
  s_aload_n rfl rfl rfl <|
  s_getR rfl rfl rfl hr1 <|
  s_iload_n rfl rfl rfl <|
  s_iald rfl rfl hi2 <|
  s_ret rfl rfl
theorem b_X11_colour_0 {d : Nat} {r : PO × PM} {I : Nat → Nat → Int} {S : PS} {a0 z : Nat} {x1 x2 x3 : Int} {I1 : Nat → Nat → Int} {S1 : PS} (c : Ca d mX11_pieceAt [vR (some (21, 0, a0)), vI x1] (I, S) (.inl (some (vR (some (14, 0, z))))) (I1, S1)) (k : Ev (d + 1) mX11_colour (6, [some (vR (some (21, 0, a0))), some (vI x1), some (vI x2), some (vI x3), none, none], [vR (some (14, 0, z)), vR (some (21, 0, a0))], (I1, S1)) r) : Ev (d + 1) mX11_colour (0, [some (vR (some (21, 0, a0))), some (vI x1), some (vI x2), some (vI x3), none, none], [], (I, S)) r :=
  s_aload_n rfl rfl rfl <|
  s_aload_n rfl rfl rfl <|
  s_iload_n rfl rfl rfl <|
  s_cvR rfl rfl rfl rfl rfl c k
theorem bt_X11_colour_0 {d e : Nat} {I : Nat → Nat → Int} {S : PS} {h1 : PM} {a0 : Nat} {x1 x2 x3 : Int} (c : Ca d mX11_pieceAt [vR (some (21, 0, a0)), vI x1] (I, S) (.inr e) h1) (hh : p_hnd mX11_colour 3 e [some (vR (some (21, 0, a0))), some (vI x1), some (vI x2), some (vI x3), none, none] = some none) : Ev (d + 1) mX11_colour (0, [some (vR (some (21, 0, a0))), some (vI x1), some (vI x2), some (vI x3), none, none], [], (I, S)) (.inr e, h1) :=
  s_aload_n rfl rfl rfl <|
  s_aload_n rfl rfl rfl <|
  s_iload_n rfl rfl rfl <|
  s_cvT rfl rfl rfl rfl rfl c hh
theorem b_X11_colour_6 {d : Nat} {r : PO × PM} {I : Nat → Nat → Int} {S : PS} {a0 as0 as1 z : Nat} {x1 x2 x3 : Int} {I1 : Nat → Nat → Int} {S1 : PS} (c : Ca d mX11_ringOf [vR (some (21, 0, as0)), vR (some (14, 0, as1))] (I, S) (.inl (some (vR (some (16, 0, z))))) (I1, S1)) (k : Ev (d + 1) mX11_colour (9, [some (vR (some (21, 0, a0))), some (vI x1), some (vI x2), some (vI x3), none, none], [vR (some (16, 0, z))], (I1, S1)) r) : Ev (d + 1) mX11_colour (6, [some (vR (some (21, 0, a0))), some (vI x1), some (vI x2), some (vI x3), none, none], [vR (some (14, 0, as1)), vR (some (21, 0, as0))], (I, S)) r :=
  s_cvR rfl rfl rfl rfl rfl c k
theorem b_X11_colour_9 {d : Nat} {r : PO × PM} {I : Nat → Nat → Int} {S : PS} {a0 as0 : Nat} {x1 x2 x3 z : Int} {I1 : Nat → Nat → Int} {S1 : PS} (c : Ca d mX11_codeAt [vR (some (21, 0, a0)), vR (some (16, 0, as0)), vI x2] (I, S) (.inl (some (vI z))) (I1, S1)) (k : Ev (d + 1) mX11_colour (18, [some (vR (some (21, 0, a0))), some (vI x1), some (vI x2), some (vI x3), some (vR (some (16, 0, as0))), none], [vI z], (I1, S1)) r) : Ev (d + 1) mX11_colour (9, [some (vR (some (21, 0, a0))), some (vI x1), some (vI x2), some (vI x3), none, none], [vR (some (16, 0, as0))], (I, S)) r :=
  s_astore [some (vR (some (21, 0, a0))), some (vI x1), some (vI x2), some (vI x3), some (vR (some (16, 0, as0))), none] rfl rfl <|
  s_aload_n rfl rfl rfl <|
  s_aload rfl rfl rfl <|
  s_iload_n rfl rfl rfl <|
  s_cvI rfl rfl rfl rfl rfl c k
theorem bt_X11_colour_9 {d e : Nat} {I : Nat → Nat → Int} {S : PS} {h1 : PM} {a0 as0 : Nat} {x1 x2 x3 : Int} (c : Ca d mX11_codeAt [vR (some (21, 0, a0)), vR (some (16, 0, as0)), vI x2] (I, S) (.inr e) h1) (hh : p_hnd mX11_colour 15 e [some (vR (some (21, 0, a0))), some (vI x1), some (vI x2), some (vI x3), some (vR (some (16, 0, as0))), none] = some none) : Ev (d + 1) mX11_colour (9, [some (vR (some (21, 0, a0))), some (vI x1), some (vI x2), some (vI x3), none, none], [vR (some (16, 0, as0))], (I, S)) (.inr e, h1) :=
  s_astore [some (vR (some (21, 0, a0))), some (vI x1), some (vI x2), some (vI x3), some (vR (some (16, 0, as0))), none] rfl rfl <|
  s_aload_n rfl rfl rfl <|
  s_aload rfl rfl rfl <|
  s_iload_n rfl rfl rfl <|
  s_cvT rfl rfl rfl rfl rfl c hh
theorem b_X11_colour_18 {d : Nat} {r : PO × PM} {I : Nat → Nat → Int} {S : PS} {a0 a4 : Nat} {x1 x2 x3 xs0 : Int} (kt : x3 < 0 → Ev d mX11_colour (33, [some (vR (some (21, 0, a0))), some (vI x1), some (vI x2), some (vI x3), some (vR (some (16, 0, a4))), some (vI xs0)], [], (I, S)) r) (kf : 0 ≤ x3 → Ev d mX11_colour (24, [some (vR (some (21, 0, a0))), some (vI x1), some (vI x2), some (vI x3), some (vR (some (16, 0, a4))), some (vI xs0)], [], (I, S)) r) : Ev d mX11_colour (18, [some (vR (some (21, 0, a0))), some (vI x1), some (vI x2), some (vI x3), some (vR (some (16, 0, a4))), none], [vI xs0], (I, S)) r :=
  s_istore [some (vR (some (21, 0, a0))), some (vI x1), some (vI x2), some (vI x3), some (vR (some (16, 0, a4))), some (vI xs0)] rfl rfl <|
  s_iload_n rfl rfl rfl <|
  s_if_lt 33 rfl rfl kt kf
theorem b_X11_colour_24 {d : Nat} {r : PO × PM} {I : Nat → Nat → Int} {S : PS} {a0 a4 : Nat} {x1 x2 x3 x5 : Int} (kt : x3 < I a4 0 → Ev d mX11_colour (41, [some (vR (some (21, 0, a0))), some (vI x1), some (vI x2), some (vI x3), some (vR (some (16, 0, a4))), some (vI x5)], [], (I, S)) r) (kf : I a4 0 ≤ x3 → Ev d mX11_colour (33, [some (vR (some (21, 0, a0))), some (vI x1), some (vI x2), some (vI x3), some (vR (some (16, 0, a4))), some (vI x5)], [], (I, S)) r) : Ev d mX11_colour (24, [some (vR (some (21, 0, a0))), some (vI x1), some (vI x2), some (vI x3), some (vR (some (16, 0, a4))), some (vI x5)], [], (I, S)) r :=
  s_iload_n rfl rfl rfl <|
  s_aload rfl rfl rfl <|
  s_getI rfl rfl rfl <|
  s_icmp_lt 41 rfl rfl kt kf
theorem b_X11_colour_33 {d : Nat} {I : Nat → Nat → Int} {S : PS} {a0 a4 : Nat} {x1 x2 x3 x5 : Int} : Ev d mX11_colour (33, [some (vR (some (21, 0, a0))), some (vI x1), some (vI x2), some (vI x3), some (vR (some (16, 0, a4))), some (vI x5)], [], (I, S)) (.inr 1, (I, exS S)) :=
  s_throw rfl rfl rfl rfl rfl rfl rfl
theorem b_X11_colour_41 {d : Nat} {r : PO × PM} {I : Nat → Nat → Int} {S : PS} {a0 a4 : Nat} {x1 x2 x3 x5 z : Int} {I1 : Nat → Nat → Int} {S1 : PS} (c : Ca d mX6_colourAt [vR (some (16, 0, a4)), vI x5, vI x3] (I, S) (.inl (some (vI z))) (I1, S1)) (k : Ev (d + 1) mX11_colour (49, [some (vR (some (21, 0, a0))), some (vI x1), some (vI x2), some (vI x3), some (vR (some (16, 0, a4))), some (vI x5)], [vI z], (I1, S1)) r) : Ev (d + 1) mX11_colour (41, [some (vR (some (21, 0, a0))), some (vI x1), some (vI x2), some (vI x3), some (vR (some (16, 0, a4))), some (vI x5)], [], (I, S)) r :=
  s_aload rfl rfl rfl <|
  s_iload rfl rfl rfl <|
  s_iload_n rfl rfl rfl <|
  s_cvI rfl rfl rfl rfl rfl c k
theorem b_X11_colour_49 {d : Nat} {I : Nat → Nat → Int} {S : PS} {a0 a4 : Nat} {x1 x2 x3 x5 xs0 : Int} : Ev d mX11_colour (49, [some (vR (some (21, 0, a0))), some (vI x1), some (vI x2), some (vI x3), some (vR (some (16, 0, a4))), some (vI x5)], [vI xs0], (I, S)) (.inl (some (vI xs0)), (I, S)) :=
  s_ret rfl rfl
theorem b_X11_named_0 {d : Nat} {r : PO × PM} {I : Nat → Nat → Int} {S : PS} {a0 z : Nat} {x1 x2 : Int} {I1 : Nat → Nat → Int} {S1 : PS} (c : Ca d mX11_pieceAt [vR (some (21, 0, a0)), vI x1] (I, S) (.inl (some (vR (some (14, 0, z))))) (I1, S1)) (k : Ev (d + 1) mX11_named (6, [some (vR (some (21, 0, a0))), some (vI x1), some (vI x2), none, none], [vR (some (14, 0, z)), vR (some (21, 0, a0))], (I1, S1)) r) : Ev (d + 1) mX11_named (0, [some (vR (some (21, 0, a0))), some (vI x1), some (vI x2), none, none], [], (I, S)) r :=
  s_aload_n rfl rfl rfl <|
  s_aload_n rfl rfl rfl <|
  s_iload_n rfl rfl rfl <|
  s_cvR rfl rfl rfl rfl rfl c k
theorem bt_X11_named_0 {d e : Nat} {I : Nat → Nat → Int} {S : PS} {h1 : PM} {a0 : Nat} {x1 x2 : Int} (c : Ca d mX11_pieceAt [vR (some (21, 0, a0)), vI x1] (I, S) (.inr e) h1) (hh : p_hnd mX11_named 3 e [some (vR (some (21, 0, a0))), some (vI x1), some (vI x2), none, none] = some none) : Ev (d + 1) mX11_named (0, [some (vR (some (21, 0, a0))), some (vI x1), some (vI x2), none, none], [], (I, S)) (.inr e, h1) :=
  s_aload_n rfl rfl rfl <|
  s_aload_n rfl rfl rfl <|
  s_iload_n rfl rfl rfl <|
  s_cvT rfl rfl rfl rfl rfl c hh
theorem b_X11_named_6 {d : Nat} {r : PO × PM} {I : Nat → Nat → Int} {S : PS} {a0 as0 as1 z : Nat} {x1 x2 : Int} {I1 : Nat → Nat → Int} {S1 : PS} (c : Ca d mX11_ringOf [vR (some (21, 0, as0)), vR (some (14, 0, as1))] (I, S) (.inl (some (vR (some (16, 0, z))))) (I1, S1)) (k : Ev (d + 1) mX11_named (9, [some (vR (some (21, 0, a0))), some (vI x1), some (vI x2), none, none], [vR (some (16, 0, z))], (I1, S1)) r) : Ev (d + 1) mX11_named (6, [some (vR (some (21, 0, a0))), some (vI x1), some (vI x2), none, none], [vR (some (14, 0, as1)), vR (some (21, 0, as0))], (I, S)) r :=
  s_cvR rfl rfl rfl rfl rfl c k
theorem b_X11_named_9 {d : Nat} {r : PO × PM} {I : Nat → Nat → Int} {S : PS} {a0 as0 : Nat} {x1 x2 z : Int} {I1 : Nat → Nat → Int} {S1 : PS} (c : Ca d mX6_codeOfDigits [vR (some (16, 0, as0)), vI x2] (I, S) (.inl (some (vI z))) (I1, S1)) (k : Ev (d + 1) mX11_named (15, [some (vR (some (21, 0, a0))), some (vI x1), some (vI x2), some (vR (some (16, 0, as0))), none], [vI z], (I1, S1)) r) : Ev (d + 1) mX11_named (9, [some (vR (some (21, 0, a0))), some (vI x1), some (vI x2), none, none], [vR (some (16, 0, as0))], (I, S)) r :=
  s_astore_n [some (vR (some (21, 0, a0))), some (vI x1), some (vI x2), some (vR (some (16, 0, as0))), none] rfl rfl <|
  s_aload_n rfl rfl rfl <|
  s_iload_n rfl rfl rfl <|
  s_cvI rfl rfl rfl rfl rfl c k
theorem b_X11_named_15 {d : Nat} {r : PO × PM} {I : Nat → Nat → Int} {S : PS} {a0 a3 : Nat} {x1 x2 xs0 : Int} (kt : xs0 ≠ (-1) → Ev d mX11_named (27, [some (vR (some (21, 0, a0))), some (vI x1), some (vI x2), some (vR (some (16, 0, a3))), some (vI xs0)], [], (I, S)) r) (kf : xs0 = (-1) → Ev d mX11_named (23, [some (vR (some (21, 0, a0))), some (vI x1), some (vI x2), some (vR (some (16, 0, a3))), some (vI xs0)], [], (I, S)) r) : Ev d mX11_named (15, [some (vR (some (21, 0, a0))), some (vI x1), some (vI x2), some (vR (some (16, 0, a3))), none], [vI xs0], (I, S)) r :=
  s_istore [some (vR (some (21, 0, a0))), some (vI x1), some (vI x2), some (vR (some (16, 0, a3))), some (vI xs0)] rfl rfl <|
  s_iload rfl rfl rfl <|
  s_iconst rfl rfl <|
  s_icmp_ne 27 rfl rfl kt kf
theorem b_X11_named_23 {d : Nat} {r : PO × PM} {I : Nat → Nat → Int} {S : PS} {a0 a3 : Nat} {x1 x2 x4 : Int} (k : Ev d mX11_named (37, [some (vR (some (21, 0, a0))), some (vI x1), some (vI x2), some (vR (some (16, 0, a3))), some (vI x4)], [vI (-1)], (I, S)) r) : Ev d mX11_named (23, [some (vR (some (21, 0, a0))), some (vI x1), some (vI x2), some (vR (some (16, 0, a3))), some (vI x4)], [], (I, S)) r :=
  s_iconst rfl rfl <|
  s_goto 37 rfl rfl k
theorem b_X11_named_27 {d : Nat} {r : PO × PM} {I : Nat → Nat → Int} {S : PS} {a0 a3 : Nat} {x1 x2 x4 z : Int} {I1 : Nat → Nat → Int} {S1 : PS} (c : Ca d mX6_renamed [vR (some (16, 0, a3)), vI x4] (I, S) (.inl (some (vI z))) (I1, S1)) (k : Ev (d + 1) mX11_named (34, [some (vR (some (21, 0, a0))), some (vI x1), some (vI x2), some (vR (some (16, 0, a3))), some (vI x4)], [vI z, vR (some (16, 0, a3))], (I1, S1)) r) : Ev (d + 1) mX11_named (27, [some (vR (some (21, 0, a0))), some (vI x1), some (vI x2), some (vR (some (16, 0, a3))), some (vI x4)], [], (I, S)) r :=
  s_aload_n rfl rfl rfl <|
  s_aload_n rfl rfl rfl <|
  s_iload rfl rfl rfl <|
  s_cvI rfl rfl rfl rfl rfl c k
theorem b_X11_named_34 {d : Nat} {r : PO × PM} {I : Nat → Nat → Int} {S : PS} {a0 a3 as0 : Nat} {x1 x2 x4 xs1 z : Int} {I1 : Nat → Nat → Int} {S1 : PS} (c : Ca d mX6_find [vR (some (16, 0, as0)), vI xs1] (I, S) (.inl (some (vI z))) (I1, S1)) (k : Ev (d + 1) mX11_named (37, [some (vR (some (21, 0, a0))), some (vI x1), some (vI x2), some (vR (some (16, 0, a3))), some (vI x4)], [vI z], (I1, S1)) r) : Ev (d + 1) mX11_named (34, [some (vR (some (21, 0, a0))), some (vI x1), some (vI x2), some (vR (some (16, 0, a3))), some (vI x4)], [vI xs1, vR (some (16, 0, as0))], (I, S)) r :=
  s_cvI rfl rfl rfl rfl rfl c k
theorem b_X11_named_37 {d : Nat} {I : Nat → Nat → Int} {S : PS} {a0 a3 : Nat} {x1 x2 x4 xs0 : Int} : Ev d mX11_named (37, [some (vR (some (21, 0, a0))), some (vI x1), some (vI x2), some (vR (some (16, 0, a3))), some (vI x4)], [vI xs0], (I, S)) (.inl (some (vI xs0)), (I, S)) :=
  s_ret rfl rfl
theorem b_X11_level_0 {d : Nat} {r : PO × PM} {I : Nat → Nat → Int} {S : PS} {a0 z : Nat} {x1 x2 : Int} {I1 : Nat → Nat → Int} {S1 : PS} (c : Ca d mX11_pieceAt [vR (some (21, 0, a0)), vI x1] (I, S) (.inl (some (vR (some (14, 0, z))))) (I1, S1)) (k : Ev (d + 1) mX11_level (5, [some (vR (some (21, 0, a0))), some (vI x1), some (vI x2), none], [vR (some (14, 0, z))], (I1, S1)) r) : Ev (d + 1) mX11_level (0, [some (vR (some (21, 0, a0))), some (vI x1), some (vI x2), none], [], (I, S)) r :=
  s_aload_n rfl rfl rfl <|
  s_iload_n rfl rfl rfl <|
  s_cvR rfl rfl rfl rfl rfl c k
theorem bt_X11_level_0 {d e : Nat} {I : Nat → Nat → Int} {S : PS} {h1 : PM} {a0 : Nat} {x1 x2 : Int} (c : Ca d mX11_pieceAt [vR (some (21, 0, a0)), vI x1] (I, S) (.inr e) h1) (hh : p_hnd mX11_level 2 e [some (vR (some (21, 0, a0))), some (vI x1), some (vI x2), none] = some none) : Ev (d + 1) mX11_level (0, [some (vR (some (21, 0, a0))), some (vI x1), some (vI x2), none], [], (I, S)) (.inr e, h1) :=
  s_aload_n rfl rfl rfl <|
  s_iload_n rfl rfl rfl <|
  s_cvT rfl rfl rfl rfl rfl c hh
theorem b_X11_level_5 {d : Nat} {r : PO × PM} {I : Nat → Nat → Int} {S : PS} {a0 as0 z : Nat} {x1 x2 : Int} {I1 : Nat → Nat → Int} {S1 : PS} (c : Ca d mX11_ringOf [vR (some (21, 0, a0)), vR (some (14, 0, as0))] (I, S) (.inl (some (vR (some (16, 0, z))))) (I1, S1)) (k : Ev (d + 1) mX11_level (12, [some (vR (some (21, 0, a0))), some (vI x1), some (vI x2), some (vR (some (14, 0, as0)))], [vR (some (16, 0, z)), vR (some (21, 0, a0))], (I1, S1)) r) : Ev (d + 1) mX11_level (5, [some (vR (some (21, 0, a0))), some (vI x1), some (vI x2), none], [vR (some (14, 0, as0))], (I, S)) r :=
  s_astore_n [some (vR (some (21, 0, a0))), some (vI x1), some (vI x2), some (vR (some (14, 0, as0)))] rfl rfl <|
  s_aload_n rfl rfl rfl <|
  s_aload_n rfl rfl rfl <|
  s_aload_n rfl rfl rfl <|
  s_cvR rfl rfl rfl rfl rfl c k
theorem b_X11_level_12 {d : Nat} {r : PO × PM} {I : Nat → Nat → Int} {S : PS} {a0 a3 as0 as1 : Nat} {x1 x2 z : Int} {I1 : Nat → Nat → Int} {S1 : PS} (c : Ca d mX11_codeAt [vR (some (21, 0, as0)), vR (some (16, 0, as1)), vI x2] (I, S) (.inl (some (vI z))) (I1, S1)) (k : Ev (d + 1) mX11_level (16, [some (vR (some (21, 0, a0))), some (vI x1), some (vI x2), some (vR (some (14, 0, a3)))], [vI z], (I1, S1)) r) : Ev (d + 1) mX11_level (12, [some (vR (some (21, 0, a0))), some (vI x1), some (vI x2), some (vR (some (14, 0, a3)))], [vR (some (16, 0, as1)), vR (some (21, 0, as0))], (I, S)) r :=
  s_iload_n rfl rfl rfl <|
  s_cvI rfl rfl rfl rfl rfl c k
theorem bt_X11_level_12 {d e : Nat} {I : Nat → Nat → Int} {S : PS} {h1 : PM} {a0 a3 as0 as1 : Nat} {x1 x2 : Int} (c : Ca d mX11_codeAt [vR (some (21, 0, as0)), vR (some (16, 0, as1)), vI x2] (I, S) (.inr e) h1) (hh : p_hnd mX11_level 13 e [some (vR (some (21, 0, a0))), some (vI x1), some (vI x2), some (vR (some (14, 0, a3)))] = some none) : Ev (d + 1) mX11_level (12, [some (vR (some (21, 0, a0))), some (vI x1), some (vI x2), some (vR (some (14, 0, a3)))], [vR (some (16, 0, as1)), vR (some (21, 0, as0))], (I, S)) (.inr e, h1) :=
  s_iload_n rfl rfl rfl <|
  s_cvT rfl rfl rfl rfl rfl c hh
theorem b_X11_level_16 {d : Nat} {r : PO × PM} {I : Nat → Nat → Int} {S : PS} {a0 a3 z : Nat} {x1 x2 xs0 : Int} {I1 : Nat → Nat → Int} {S1 : PS} (c : Ca d mX11_studied [vR (some (21, 0, a0)), vR (some (14, 0, a3))] (I, S) (.inl (some (vR (some (14, 0, z))))) (I1, S1)) (k : Ev (d + 1) mX11_level (22, [some (vR (some (21, 0, a0))), some (vI x1), some (vI x2), some (vR (some (14, 0, a3)))], [vR (some (14, 0, z))], (I1, S1)) r) : Ev (d + 1) mX11_level (16, [some (vR (some (21, 0, a0))), some (vI x1), some (vI x2), some (vR (some (14, 0, a3)))], [vI xs0], (I, S)) r :=
  s_pop rfl rfl <|
  s_aload_n rfl rfl rfl <|
  s_aload_n rfl rfl rfl <|
  s_cvR rfl rfl rfl rfl rfl c k
theorem b_X11_level_22 {d : Nat} {I : Nat → Nat → Int} {S : PS} {a0 a3 as0 p1 q1 : Nat} {x1 x2 : Int} (hr1 : S.1 as0 10 = some (1, q1, p1)) (hi2 : 0 ≤ x2 ∧ x2 < (q1 : Nat)) : Ev d mX11_level (22, [some (vR (some (21, 0, a0))), some (vI x1), some (vI x2), some (vR (some (14, 0, a3)))], [vR (some (14, 0, as0))], (I, S)) (.inl (some (vI (I p1 x2.toNat))), (I, S)) :=
  s_getR rfl rfl rfl hr1 <|
  s_iload_n rfl rfl rfl <|
  s_bald rfl rfl hi2 <|
  s_ret rfl rfl
theorem b_X11_extend_0 {d : Nat} {r : PO × PM} {I : Nat → Nat → Int} {S : PS} {a0 z : Nat} {x1 x2 x3 : Int} {I1 : Nat → Nat → Int} {S1 : PS} (c : Ca d mX11_pieceAt [vR (some (21, 0, a0)), vI x1] (I, S) (.inl (some (vR (some (14, 0, z))))) (I1, S1)) (k : Ev (d + 1) mX11_extend (5, [some (vR (some (21, 0, a0))), some (vI x1), some (vI x2), some (vI x3), none, none, none], [vR (some (14, 0, z))], (I1, S1)) r) : Ev (d + 1) mX11_extend (0, [some (vR (some (21, 0, a0))), some (vI x1), some (vI x2), some (vI x3), none, none, none], [], (I, S)) r :=
  s_aload_n rfl rfl rfl <|
  s_iload_n rfl rfl rfl <|
  s_cvR rfl rfl rfl rfl rfl c k
theorem bt_X11_extend_0 {d e : Nat} {I : Nat → Nat → Int} {S : PS} {h1 : PM} {a0 : Nat} {x1 x2 x3 : Int} (c : Ca d mX11_pieceAt [vR (some (21, 0, a0)), vI x1] (I, S) (.inr e) h1) (hh : p_hnd mX11_extend 2 e [some (vR (some (21, 0, a0))), some (vI x1), some (vI x2), some (vI x3), none, none, none] = some none) : Ev (d + 1) mX11_extend (0, [some (vR (some (21, 0, a0))), some (vI x1), some (vI x2), some (vI x3), none, none, none], [], (I, S)) (.inr e, h1) :=
  s_aload_n rfl rfl rfl <|
  s_iload_n rfl rfl rfl <|
  s_cvT rfl rfl rfl rfl rfl c hh
theorem b_X11_extend_5 {d : Nat} {r : PO × PM} {I : Nat → Nat → Int} {S : PS} {a0 as0 z : Nat} {x1 x2 x3 : Int} {I1 : Nat → Nat → Int} {S1 : PS} (c : Ca d mX11_ringOf [vR (some (21, 0, a0)), vR (some (14, 0, as0))] (I, S) (.inl (some (vR (some (16, 0, z))))) (I1, S1)) (k : Ev (d + 1) mX11_extend (13, [some (vR (some (21, 0, a0))), some (vI x1), some (vI x2), some (vI x3), some (vR (some (14, 0, as0))), none, none], [vR (some (16, 0, z))], (I1, S1)) r) : Ev (d + 1) mX11_extend (5, [some (vR (some (21, 0, a0))), some (vI x1), some (vI x2), some (vI x3), none, none, none], [vR (some (14, 0, as0))], (I, S)) r :=
  s_astore [some (vR (some (21, 0, a0))), some (vI x1), some (vI x2), some (vI x3), some (vR (some (14, 0, as0))), none, none] rfl rfl <|
  s_aload_n rfl rfl rfl <|
  s_aload rfl rfl rfl <|
  s_cvR rfl rfl rfl rfl rfl c k
theorem b_X11_extend_13 {d : Nat} {r : PO × PM} {I : Nat → Nat → Int} {S : PS} {a0 a4 as0 : Nat} {x1 x2 x3 z : Int} {I1 : Nat → Nat → Int} {S1 : PS} (c : Ca d mX11_codeAt [vR (some (21, 0, a0)), vR (some (16, 0, as0)), vI x2] (I, S) (.inl (some (vI z))) (I1, S1)) (k : Ev (d + 1) mX11_extend (22, [some (vR (some (21, 0, a0))), some (vI x1), some (vI x2), some (vI x3), some (vR (some (14, 0, a4))), some (vR (some (16, 0, as0))), none], [vI z], (I1, S1)) r) : Ev (d + 1) mX11_extend (13, [some (vR (some (21, 0, a0))), some (vI x1), some (vI x2), some (vI x3), some (vR (some (14, 0, a4))), none, none], [vR (some (16, 0, as0))], (I, S)) r :=
  s_astore [some (vR (some (21, 0, a0))), some (vI x1), some (vI x2), some (vI x3), some (vR (some (14, 0, a4))), some (vR (some (16, 0, as0))), none] rfl rfl <|
  s_aload_n rfl rfl rfl <|
  s_aload rfl rfl rfl <|
  s_iload_n rfl rfl rfl <|
  s_cvI rfl rfl rfl rfl rfl c k
theorem bt_X11_extend_13 {d e : Nat} {I : Nat → Nat → Int} {S : PS} {h1 : PM} {a0 a4 as0 : Nat} {x1 x2 x3 : Int} (c : Ca d mX11_codeAt [vR (some (21, 0, a0)), vR (some (16, 0, as0)), vI x2] (I, S) (.inr e) h1) (hh : p_hnd mX11_extend 19 e [some (vR (some (21, 0, a0))), some (vI x1), some (vI x2), some (vI x3), some (vR (some (14, 0, a4))), some (vR (some (16, 0, as0))), none] = some none) : Ev (d + 1) mX11_extend (13, [some (vR (some (21, 0, a0))), some (vI x1), some (vI x2), some (vI x3), some (vR (some (14, 0, a4))), none, none], [vR (some (16, 0, as0))], (I, S)) (.inr e, h1) :=
  s_astore [some (vR (some (21, 0, a0))), some (vI x1), some (vI x2), some (vI x3), some (vR (some (14, 0, a4))), some (vR (some (16, 0, as0))), none] rfl rfl <|
  s_aload_n rfl rfl rfl <|
  s_aload rfl rfl rfl <|
  s_iload_n rfl rfl rfl <|
  s_cvT rfl rfl rfl rfl rfl c hh
theorem b_X11_extend_22 {d : Nat} {r : PO × PM} {I : Nat → Nat → Int} {S : PS} {a0 a4 a5 : Nat} {x1 x2 x3 xs0 : Int} (kt : x3 < 0 → Ev d mX11_extend (37, [some (vR (some (21, 0, a0))), some (vI x1), some (vI x2), some (vI x3), some (vR (some (14, 0, a4))), some (vR (some (16, 0, a5))), some (vI xs0)], [], (I, S)) r) (kf : 0 ≤ x3 → Ev d mX11_extend (28, [some (vR (some (21, 0, a0))), some (vI x1), some (vI x2), some (vI x3), some (vR (some (14, 0, a4))), some (vR (some (16, 0, a5))), some (vI xs0)], [], (I, S)) r) : Ev d mX11_extend (22, [some (vR (some (21, 0, a0))), some (vI x1), some (vI x2), some (vI x3), some (vR (some (14, 0, a4))), some (vR (some (16, 0, a5))), none], [vI xs0], (I, S)) r :=
  s_istore [some (vR (some (21, 0, a0))), some (vI x1), some (vI x2), some (vI x3), some (vR (some (14, 0, a4))), some (vR (some (16, 0, a5))), some (vI xs0)] rfl rfl <|
  s_iload_n rfl rfl rfl <|
  s_if_lt 37 rfl rfl kt kf
theorem b_X11_extend_28 {d : Nat} {r : PO × PM} {I : Nat → Nat → Int} {S : PS} {a0 a4 a5 : Nat} {x1 x2 x3 x6 : Int} (kt : x3 ≤ I a4 1 → Ev d mX11_extend (45, [some (vR (some (21, 0, a0))), some (vI x1), some (vI x2), some (vI x3), some (vR (some (14, 0, a4))), some (vR (some (16, 0, a5))), some (vI x6)], [], (I, S)) r) (kf : I a4 1 < x3 → Ev d mX11_extend (37, [some (vR (some (21, 0, a0))), some (vI x1), some (vI x2), some (vI x3), some (vR (some (14, 0, a4))), some (vR (some (16, 0, a5))), some (vI x6)], [], (I, S)) r) : Ev d mX11_extend (28, [some (vR (some (21, 0, a0))), some (vI x1), some (vI x2), some (vI x3), some (vR (some (14, 0, a4))), some (vR (some (16, 0, a5))), some (vI x6)], [], (I, S)) r :=
  s_iload_n rfl rfl rfl <|
  s_aload rfl rfl rfl <|
  s_getI rfl rfl rfl <|
  s_icmp_le 45 rfl rfl kt kf
theorem b_X11_extend_37 {d : Nat} {I : Nat → Nat → Int} {S : PS} {a0 a4 a5 : Nat} {x1 x2 x3 x6 : Int} : Ev d mX11_extend (37, [some (vR (some (21, 0, a0))), some (vI x1), some (vI x2), some (vI x3), some (vR (some (14, 0, a4))), some (vR (some (16, 0, a5))), some (vI x6)], [], (I, S)) (.inr 1, (I, exS S)) :=
  s_throw rfl rfl rfl rfl rfl rfl rfl
theorem b_X11_extend_45 {d : Nat} {r : PO × PM} {I : Nat → Nat → Int} {S : PS} {a0 a4 a5 : Nat} {x1 x2 x3 x6 z : Int} {I1 : Nat → Nat → Int} {S1 : PS} (c : Ca d mX3_firstExtension [vR (some (14, 0, a4)), vR (some (16, 0, a5)), vI x6, vI x3] (I, S) (.inl (some (vI z))) (I1, S1)) (k : Ev (d + 1) mX11_extend (55, [some (vR (some (21, 0, a0))), some (vI x1), some (vI x2), some (vI x3), some (vR (some (14, 0, a4))), some (vR (some (16, 0, a5))), some (vI x6)], [vI z], (I1, S1)) r) : Ev (d + 1) mX11_extend (45, [some (vR (some (21, 0, a0))), some (vI x1), some (vI x2), some (vI x3), some (vR (some (14, 0, a4))), some (vR (some (16, 0, a5))), some (vI x6)], [], (I, S)) r :=
  s_aload rfl rfl rfl <|
  s_aload rfl rfl rfl <|
  s_iload rfl rfl rfl <|
  s_iload_n rfl rfl rfl <|
  s_cvI rfl rfl rfl rfl rfl c k
theorem b_X11_extend_55 {d : Nat} {I : Nat → Nat → Int} {S : PS} {a0 a4 a5 : Nat} {x1 x2 x3 x6 xs0 : Int} : Ev d mX11_extend (55, [some (vR (some (21, 0, a0))), some (vI x1), some (vI x2), some (vI x3), some (vR (some (14, 0, a4))), some (vR (some (16, 0, a5))), some (vI x6)], [vI xs0], (I, S)) (.inl (some (vI xs0)), (I, S)) :=
  s_ret rfl rfl
theorem b_X11_runs_0 {d : Nat} {r : PO × PM} {I : Nat → Nat → Int} {S : PS} {a0 z : Nat} {x1 x2 x3 x4 : Int} {I1 : Nat → Nat → Int} {S1 : PS} (c : Ca d mX11_pieceAt [vR (some (21, 0, a0)), vI x1] (I, S) (.inl (some (vR (some (14, 0, z))))) (I1, S1)) (k : Ev (d + 1) mX11_runs (6, [some (vR (some (21, 0, a0))), some (vI x1), some (vI x2), some (vI x3), some (vI x4), none, none, none], [vR (some (14, 0, z)), vR (some (21, 0, a0))], (I1, S1)) r) : Ev (d + 1) mX11_runs (0, [some (vR (some (21, 0, a0))), some (vI x1), some (vI x2), some (vI x3), some (vI x4), none, none, none], [], (I, S)) r :=
  s_aload_n rfl rfl rfl <|
  s_aload_n rfl rfl rfl <|
  s_iload_n rfl rfl rfl <|
  s_cvR rfl rfl rfl rfl rfl c k
theorem bt_X11_runs_0 {d e : Nat} {I : Nat → Nat → Int} {S : PS} {h1 : PM} {a0 : Nat} {x1 x2 x3 x4 : Int} (c : Ca d mX11_pieceAt [vR (some (21, 0, a0)), vI x1] (I, S) (.inr e) h1) (hh : p_hnd mX11_runs 3 e [some (vR (some (21, 0, a0))), some (vI x1), some (vI x2), some (vI x3), some (vI x4), none, none, none] = some none) : Ev (d + 1) mX11_runs (0, [some (vR (some (21, 0, a0))), some (vI x1), some (vI x2), some (vI x3), some (vI x4), none, none, none], [], (I, S)) (.inr e, h1) :=
  s_aload_n rfl rfl rfl <|
  s_aload_n rfl rfl rfl <|
  s_iload_n rfl rfl rfl <|
  s_cvT rfl rfl rfl rfl rfl c hh
theorem b_X11_runs_6 {d : Nat} {r : PO × PM} {I : Nat → Nat → Int} {S : PS} {a0 as0 as1 z : Nat} {x1 x2 x3 x4 : Int} {I1 : Nat → Nat → Int} {S1 : PS} (c : Ca d mX11_ringOf [vR (some (21, 0, as0)), vR (some (14, 0, as1))] (I, S) (.inl (some (vR (some (16, 0, z))))) (I1, S1)) (k : Ev (d + 1) mX11_runs (9, [some (vR (some (21, 0, a0))), some (vI x1), some (vI x2), some (vI x3), some (vI x4), none, none, none], [vR (some (16, 0, z))], (I1, S1)) r) : Ev (d + 1) mX11_runs (6, [some (vR (some (21, 0, a0))), some (vI x1), some (vI x2), some (vI x3), some (vI x4), none, none, none], [vR (some (14, 0, as1)), vR (some (21, 0, as0))], (I, S)) r :=
  s_cvR rfl rfl rfl rfl rfl c k
theorem b_X11_runs_9 {d : Nat} {r : PO × PM} {I : Nat → Nat → Int} {S : PS} {a0 as0 : Nat} {x1 x2 x3 x4 z : Int} {I1 : Nat → Nat → Int} {S1 : PS} (c : Ca d mX11_codeAt [vR (some (21, 0, a0)), vR (some (16, 0, as0)), vI x2] (I, S) (.inl (some (vI z))) (I1, S1)) (k : Ev (d + 1) mX11_runs (18, [some (vR (some (21, 0, a0))), some (vI x1), some (vI x2), some (vI x3), some (vI x4), some (vR (some (16, 0, as0))), none, none], [vI z], (I1, S1)) r) : Ev (d + 1) mX11_runs (9, [some (vR (some (21, 0, a0))), some (vI x1), some (vI x2), some (vI x3), some (vI x4), none, none, none], [vR (some (16, 0, as0))], (I, S)) r :=
  s_astore [some (vR (some (21, 0, a0))), some (vI x1), some (vI x2), some (vI x3), some (vI x4), some (vR (some (16, 0, as0))), none, none] rfl rfl <|
  s_aload_n rfl rfl rfl <|
  s_aload rfl rfl rfl <|
  s_iload_n rfl rfl rfl <|
  s_cvI rfl rfl rfl rfl rfl c k
theorem bt_X11_runs_9 {d e : Nat} {I : Nat → Nat → Int} {S : PS} {h1 : PM} {a0 as0 : Nat} {x1 x2 x3 x4 : Int} (c : Ca d mX11_codeAt [vR (some (21, 0, a0)), vR (some (16, 0, as0)), vI x2] (I, S) (.inr e) h1) (hh : p_hnd mX11_runs 15 e [some (vR (some (21, 0, a0))), some (vI x1), some (vI x2), some (vI x3), some (vI x4), some (vR (some (16, 0, as0))), none, none] = some none) : Ev (d + 1) mX11_runs (9, [some (vR (some (21, 0, a0))), some (vI x1), some (vI x2), some (vI x3), some (vI x4), none, none, none], [vR (some (16, 0, as0))], (I, S)) (.inr e, h1) :=
  s_astore [some (vR (some (21, 0, a0))), some (vI x1), some (vI x2), some (vI x3), some (vI x4), some (vR (some (16, 0, as0))), none, none] rfl rfl <|
  s_aload_n rfl rfl rfl <|
  s_aload rfl rfl rfl <|
  s_iload_n rfl rfl rfl <|
  s_cvT rfl rfl rfl rfl rfl c hh
theorem b_X11_runs_18 {d : Nat} {r : PO × PM} {I : Nat → Nat → Int} {S : PS} {a0 a5 : Nat} {x1 x2 x3 x4 xs0 : Int} (kt : x3 < 0 → Ev d mX11_runs (40, [some (vR (some (21, 0, a0))), some (vI x1), some (vI x2), some (vI x3), some (vI x4), some (vR (some (16, 0, a5))), some (vI xs0), none], [], (I, S)) r) (kf : 0 ≤ x3 → Ev d mX11_runs (24, [some (vR (some (21, 0, a0))), some (vI x1), some (vI x2), some (vI x3), some (vI x4), some (vR (some (16, 0, a5))), some (vI xs0), none], [], (I, S)) r) : Ev d mX11_runs (18, [some (vR (some (21, 0, a0))), some (vI x1), some (vI x2), some (vI x3), some (vI x4), some (vR (some (16, 0, a5))), none, none], [vI xs0], (I, S)) r :=
  s_istore [some (vR (some (21, 0, a0))), some (vI x1), some (vI x2), some (vI x3), some (vI x4), some (vR (some (16, 0, a5))), some (vI xs0), none] rfl rfl <|
  s_iload_n rfl rfl rfl <|
  s_if_lt 40 rfl rfl kt kf
theorem b_X11_runs_24 {d : Nat} {r : PO × PM} {I : Nat → Nat → Int} {S : PS} {a0 a5 : Nat} {x1 x2 x3 x4 x6 : Int} (kt : 3 ≤ x3 → Ev d mX11_runs (40, [some (vR (some (21, 0, a0))), some (vI x1), some (vI x2), some (vI x3), some (vI x4), some (vR (some (16, 0, a5))), some (vI x6), none], [], (I, S)) r) (kf : x3 < 3 → Ev d mX11_runs (29, [some (vR (some (21, 0, a0))), some (vI x1), some (vI x2), some (vI x3), some (vI x4), some (vR (some (16, 0, a5))), some (vI x6), none], [], (I, S)) r) : Ev d mX11_runs (24, [some (vR (some (21, 0, a0))), some (vI x1), some (vI x2), some (vI x3), some (vI x4), some (vR (some (16, 0, a5))), some (vI x6), none], [], (I, S)) r :=
  s_iload_n rfl rfl rfl <|
  s_iconst rfl rfl <|
  s_icmp_ge 40 rfl rfl kt kf
theorem b_X11_runs_29 {d : Nat} {r : PO × PM} {I : Nat → Nat → Int} {S : PS} {a0 a5 : Nat} {x1 x2 x3 x4 x6 : Int} (kt : x4 < 0 → Ev d mX11_runs (40, [some (vR (some (21, 0, a0))), some (vI x1), some (vI x2), some (vI x3), some (vI x4), some (vR (some (16, 0, a5))), some (vI x6), none], [], (I, S)) r) (kf : 0 ≤ x4 → Ev d mX11_runs (34, [some (vR (some (21, 0, a0))), some (vI x1), some (vI x2), some (vI x3), some (vI x4), some (vR (some (16, 0, a5))), some (vI x6), none], [], (I, S)) r) : Ev d mX11_runs (29, [some (vR (some (21, 0, a0))), some (vI x1), some (vI x2), some (vI x3), some (vI x4), some (vR (some (16, 0, a5))), some (vI x6), none], [], (I, S)) r :=
  s_iload rfl rfl rfl <|
  s_if_lt 40 rfl rfl kt kf
theorem b_X11_runs_34 {d : Nat} {r : PO × PM} {I : Nat → Nat → Int} {S : PS} {a0 a5 : Nat} {x1 x2 x3 x4 x6 : Int} (kt : x4 ≤ 1 → Ev d mX11_runs (48, [some (vR (some (21, 0, a0))), some (vI x1), some (vI x2), some (vI x3), some (vI x4), some (vR (some (16, 0, a5))), some (vI x6), none], [], (I, S)) r) (kf : 1 < x4 → Ev d mX11_runs (40, [some (vR (some (21, 0, a0))), some (vI x1), some (vI x2), some (vI x3), some (vI x4), some (vR (some (16, 0, a5))), some (vI x6), none], [], (I, S)) r) : Ev d mX11_runs (34, [some (vR (some (21, 0, a0))), some (vI x1), some (vI x2), some (vI x3), some (vI x4), some (vR (some (16, 0, a5))), some (vI x6), none], [], (I, S)) r :=
  s_iload rfl rfl rfl <|
  s_iconst rfl rfl <|
  s_icmp_le 48 rfl rfl kt kf
theorem b_X11_runs_40 {d : Nat} {I : Nat → Nat → Int} {S : PS} {a0 a5 : Nat} {x1 x2 x3 x4 x6 : Int} : Ev d mX11_runs (40, [some (vR (some (21, 0, a0))), some (vI x1), some (vI x2), some (vI x3), some (vI x4), some (vR (some (16, 0, a5))), some (vI x6), none], [], (I, S)) (.inr 1, (I, exS S)) :=
  s_throw rfl rfl rfl rfl rfl rfl rfl
theorem b_X11_runs_48 {d : Nat} {r : PO × PM} {I : Nat → Nat → Int} {S : PS} {a0 a5 : Nat} {x1 x2 x3 x4 x6 z : Int} {I1 : Nat → Nat → Int} {S1 : PS} (c : Ca d mX6_split [vR (some (16, 0, a5)), vI x6, vI x3] (I, S) (.inl (some (vI z))) (I1, S1)) (k : Ev (d + 1) mX11_runs (56, [some (vR (some (21, 0, a0))), some (vI x1), some (vI x2), some (vI x3), some (vI x4), some (vR (some (16, 0, a5))), some (vI x6), none], [vI z], (I1, S1)) r) : Ev (d + 1) mX11_runs (48, [some (vR (some (21, 0, a0))), some (vI x1), some (vI x2), some (vI x3), some (vI x4), some (vR (some (16, 0, a5))), some (vI x6), none], [], (I, S)) r :=
  s_aload rfl rfl rfl <|
  s_iload rfl rfl rfl <|
  s_iload_n rfl rfl rfl <|
  s_cvI rfl rfl rfl rfl rfl c k
theorem b_X11_runs_56 {d : Nat} {r : PO × PM} {I : Nat → Nat → Int} {S : PS} {a0 a5 : Nat} {x1 x2 x3 x4 x6 xs0 : Int} (kt : x4 ≠ 0 → Ev d mX11_runs (68, [some (vR (some (21, 0, a0))), some (vI x1), some (vI x2), some (vI x3), some (vI x4), some (vR (some (16, 0, a5))), some (vI x6), some (vI xs0)], [], (I, S)) r) (kf : x4 = 0 → Ev d mX11_runs (63, [some (vR (some (21, 0, a0))), some (vI x1), some (vI x2), some (vI x3), some (vI x4), some (vR (some (16, 0, a5))), some (vI x6), some (vI xs0)], [], (I, S)) r) : Ev d mX11_runs (56, [some (vR (some (21, 0, a0))), some (vI x1), some (vI x2), some (vI x3), some (vI x4), some (vR (some (16, 0, a5))), some (vI x6), none], [vI xs0], (I, S)) r :=
  s_istore [some (vR (some (21, 0, a0))), some (vI x1), some (vI x2), some (vI x3), some (vI x4), some (vR (some (16, 0, a5))), some (vI x6), some (vI xs0)] rfl rfl <|
  s_iload rfl rfl rfl <|
  s_if_ne 68 rfl rfl kt kf
theorem b_X11_runs_63 {d : Nat} {r : PO × PM} {I : Nat → Nat → Int} {S : PS} {a0 a5 : Nat} {x1 x2 x3 x4 x6 x7 : Int} (k : Ev d mX11_runs (73, [some (vR (some (21, 0, a0))), some (vI x1), some (vI x2), some (vI x3), some (vI x4), some (vR (some (16, 0, a5))), some (vI x6), some (vI x7)], [vI x7], (I, S)) r) : Ev d mX11_runs (63, [some (vR (some (21, 0, a0))), some (vI x1), some (vI x2), some (vI x3), some (vI x4), some (vR (some (16, 0, a5))), some (vI x6), some (vI x7)], [], (I, S)) r :=
  s_iload rfl rfl rfl <|
  s_goto 73 rfl rfl k
theorem b_X11_runs_68 {d : Nat} {r : PO × PM} {I : Nat → Nat → Int} {S : PS} {a0 a5 : Nat} {x1 x2 x3 x4 x6 x7 z : Int} {I1 : Nat → Nat → Int} {S1 : PS} (c : Ca d mX6_fenceCount [vI x7] (I, S) (.inl (some (vI z))) (I1, S1)) (k : Ev (d + 1) mX11_runs (73, [some (vR (some (21, 0, a0))), some (vI x1), some (vI x2), some (vI x3), some (vI x4), some (vR (some (16, 0, a5))), some (vI x6), some (vI x7)], [vI z], (I1, S1)) r) : Ev (d + 1) mX11_runs (68, [some (vR (some (21, 0, a0))), some (vI x1), some (vI x2), some (vI x3), some (vI x4), some (vR (some (16, 0, a5))), some (vI x6), some (vI x7)], [], (I, S)) r :=
  s_iload rfl rfl rfl <|
  s_csI rfl rfl rfl rfl rfl rfl c k
theorem b_X11_runs_73 {d : Nat} {I : Nat → Nat → Int} {S : PS} {a0 a5 : Nat} {x1 x2 x3 x4 x6 x7 xs0 : Int} : Ev d mX11_runs (73, [some (vR (some (21, 0, a0))), some (vI x1), some (vI x2), some (vI x3), some (vI x4), some (vR (some (16, 0, a5))), some (vI x6), some (vI x7)], [vI xs0], (I, S)) (.inl (some (vI xs0)), (I, S)) :=
  s_ret rfl rfl
theorem b_X11_switched_0 {d : Nat} {r : PO × PM} {I : Nat → Nat → Int} {S : PS} {a0 z : Nat} {x1 x2 x3 x4 : Int} {I1 : Nat → Nat → Int} {S1 : PS} (c : Ca d mX11_pieceAt [vR (some (21, 0, a0)), vI x1] (I, S) (.inl (some (vR (some (14, 0, z))))) (I1, S1)) (k : Ev (d + 1) mX11_switched (6, [some (vR (some (21, 0, a0))), some (vI x1), some (vI x2), some (vI x3), some (vI x4), none, none, none], [vR (some (14, 0, z)), vR (some (21, 0, a0))], (I1, S1)) r) : Ev (d + 1) mX11_switched (0, [some (vR (some (21, 0, a0))), some (vI x1), some (vI x2), some (vI x3), some (vI x4), none, none, none], [], (I, S)) r :=
  s_aload_n rfl rfl rfl <|
  s_aload_n rfl rfl rfl <|
  s_iload_n rfl rfl rfl <|
  s_cvR rfl rfl rfl rfl rfl c k
theorem bt_X11_switched_0 {d e : Nat} {I : Nat → Nat → Int} {S : PS} {h1 : PM} {a0 : Nat} {x1 x2 x3 x4 : Int} (c : Ca d mX11_pieceAt [vR (some (21, 0, a0)), vI x1] (I, S) (.inr e) h1) (hh : p_hnd mX11_switched 3 e [some (vR (some (21, 0, a0))), some (vI x1), some (vI x2), some (vI x3), some (vI x4), none, none, none] = some none) : Ev (d + 1) mX11_switched (0, [some (vR (some (21, 0, a0))), some (vI x1), some (vI x2), some (vI x3), some (vI x4), none, none, none], [], (I, S)) (.inr e, h1) :=
  s_aload_n rfl rfl rfl <|
  s_aload_n rfl rfl rfl <|
  s_iload_n rfl rfl rfl <|
  s_cvT rfl rfl rfl rfl rfl c hh
theorem b_X11_switched_6 {d : Nat} {r : PO × PM} {I : Nat → Nat → Int} {S : PS} {a0 as0 as1 z : Nat} {x1 x2 x3 x4 : Int} {I1 : Nat → Nat → Int} {S1 : PS} (c : Ca d mX11_ringOf [vR (some (21, 0, as0)), vR (some (14, 0, as1))] (I, S) (.inl (some (vR (some (16, 0, z))))) (I1, S1)) (k : Ev (d + 1) mX11_switched (9, [some (vR (some (21, 0, a0))), some (vI x1), some (vI x2), some (vI x3), some (vI x4), none, none, none], [vR (some (16, 0, z))], (I1, S1)) r) : Ev (d + 1) mX11_switched (6, [some (vR (some (21, 0, a0))), some (vI x1), some (vI x2), some (vI x3), some (vI x4), none, none, none], [vR (some (14, 0, as1)), vR (some (21, 0, as0))], (I, S)) r :=
  s_cvR rfl rfl rfl rfl rfl c k
theorem b_X11_switched_9 {d : Nat} {r : PO × PM} {I : Nat → Nat → Int} {S : PS} {a0 as0 : Nat} {x1 x2 x3 x4 z : Int} {I1 : Nat → Nat → Int} {S1 : PS} (c : Ca d mX11_codeAt [vR (some (21, 0, a0)), vR (some (16, 0, as0)), vI x2] (I, S) (.inl (some (vI z))) (I1, S1)) (k : Ev (d + 1) mX11_switched (18, [some (vR (some (21, 0, a0))), some (vI x1), some (vI x2), some (vI x3), some (vI x4), some (vR (some (16, 0, as0))), none, none], [vI z], (I1, S1)) r) : Ev (d + 1) mX11_switched (9, [some (vR (some (21, 0, a0))), some (vI x1), some (vI x2), some (vI x3), some (vI x4), none, none, none], [vR (some (16, 0, as0))], (I, S)) r :=
  s_astore [some (vR (some (21, 0, a0))), some (vI x1), some (vI x2), some (vI x3), some (vI x4), some (vR (some (16, 0, as0))), none, none] rfl rfl <|
  s_aload_n rfl rfl rfl <|
  s_aload rfl rfl rfl <|
  s_iload_n rfl rfl rfl <|
  s_cvI rfl rfl rfl rfl rfl c k
theorem bt_X11_switched_9 {d e : Nat} {I : Nat → Nat → Int} {S : PS} {h1 : PM} {a0 as0 : Nat} {x1 x2 x3 x4 : Int} (c : Ca d mX11_codeAt [vR (some (21, 0, a0)), vR (some (16, 0, as0)), vI x2] (I, S) (.inr e) h1) (hh : p_hnd mX11_switched 15 e [some (vR (some (21, 0, a0))), some (vI x1), some (vI x2), some (vI x3), some (vI x4), some (vR (some (16, 0, as0))), none, none] = some none) : Ev (d + 1) mX11_switched (9, [some (vR (some (21, 0, a0))), some (vI x1), some (vI x2), some (vI x3), some (vI x4), none, none, none], [vR (some (16, 0, as0))], (I, S)) (.inr e, h1) :=
  s_astore [some (vR (some (21, 0, a0))), some (vI x1), some (vI x2), some (vI x3), some (vI x4), some (vR (some (16, 0, as0))), none, none] rfl rfl <|
  s_aload_n rfl rfl rfl <|
  s_aload rfl rfl rfl <|
  s_iload_n rfl rfl rfl <|
  s_cvT rfl rfl rfl rfl rfl c hh
theorem b_X11_switched_18 {d : Nat} {r : PO × PM} {I : Nat → Nat → Int} {S : PS} {a0 a5 : Nat} {x1 x2 x3 x4 xs0 : Int} (kt : x3 < 0 → Ev d mX11_switched (29, [some (vR (some (21, 0, a0))), some (vI x1), some (vI x2), some (vI x3), some (vI x4), some (vR (some (16, 0, a5))), some (vI xs0), none], [], (I, S)) r) (kf : 0 ≤ x3 → Ev d mX11_switched (24, [some (vR (some (21, 0, a0))), some (vI x1), some (vI x2), some (vI x3), some (vI x4), some (vR (some (16, 0, a5))), some (vI xs0), none], [], (I, S)) r) : Ev d mX11_switched (18, [some (vR (some (21, 0, a0))), some (vI x1), some (vI x2), some (vI x3), some (vI x4), some (vR (some (16, 0, a5))), none, none], [vI xs0], (I, S)) r :=
  s_istore [some (vR (some (21, 0, a0))), some (vI x1), some (vI x2), some (vI x3), some (vI x4), some (vR (some (16, 0, a5))), some (vI xs0), none] rfl rfl <|
  s_iload_n rfl rfl rfl <|
  s_if_lt 29 rfl rfl kt kf
theorem b_X11_switched_24 {d : Nat} {r : PO × PM} {I : Nat → Nat → Int} {S : PS} {a0 a5 : Nat} {x1 x2 x3 x4 x6 : Int} (kt : x3 < 3 → Ev d mX11_switched (37, [some (vR (some (21, 0, a0))), some (vI x1), some (vI x2), some (vI x3), some (vI x4), some (vR (some (16, 0, a5))), some (vI x6), none], [], (I, S)) r) (kf : 3 ≤ x3 → Ev d mX11_switched (29, [some (vR (some (21, 0, a0))), some (vI x1), some (vI x2), some (vI x3), some (vI x4), some (vR (some (16, 0, a5))), some (vI x6), none], [], (I, S)) r) : Ev d mX11_switched (24, [some (vR (some (21, 0, a0))), some (vI x1), some (vI x2), some (vI x3), some (vI x4), some (vR (some (16, 0, a5))), some (vI x6), none], [], (I, S)) r :=
  s_iload_n rfl rfl rfl <|
  s_iconst rfl rfl <|
  s_icmp_lt 37 rfl rfl kt kf
theorem b_X11_switched_29 {d : Nat} {I : Nat → Nat → Int} {S : PS} {a0 a5 : Nat} {x1 x2 x3 x4 x6 : Int} : Ev d mX11_switched (29, [some (vR (some (21, 0, a0))), some (vI x1), some (vI x2), some (vI x3), some (vI x4), some (vR (some (16, 0, a5))), some (vI x6), none], [], (I, S)) (.inr 1, (I, exS S)) :=
  s_throw rfl rfl rfl rfl rfl rfl rfl
theorem b_X11_switched_37 {d : Nat} {r : PO × PM} {I : Nat → Nat → Int} {S : PS} {a0 a5 : Nat} {x1 x2 x3 x4 x6 z : Int} {I1 : Nat → Nat → Int} {S1 : PS} (c : Ca d mX6_split [vR (some (16, 0, a5)), vI x6, vI x3] (I, S) (.inl (some (vI z))) (I1, S1)) (k : Ev (d + 1) mX11_switched (45, [some (vR (some (21, 0, a0))), some (vI x1), some (vI x2), some (vI x3), some (vI x4), some (vR (some (16, 0, a5))), some (vI x6), none], [vI z], (I1, S1)) r) : Ev (d + 1) mX11_switched (37, [some (vR (some (21, 0, a0))), some (vI x1), some (vI x2), some (vI x3), some (vI x4), some (vR (some (16, 0, a5))), some (vI x6), none], [], (I, S)) r :=
  s_aload rfl rfl rfl <|
  s_iload rfl rfl rfl <|
  s_iload_n rfl rfl rfl <|
  s_cvI rfl rfl rfl rfl rfl c k
theorem b_X11_switched_45 {d : Nat} {r : PO × PM} {I : Nat → Nat → Int} {S : PS} {a0 a5 : Nat} {x1 x2 x3 x4 x6 xs0 : Int} (kt : p_ushr x4 xs0 = 0 → Ev d mX11_switched (63, [some (vR (some (21, 0, a0))), some (vI x1), some (vI x2), some (vI x3), some (vI x4), some (vR (some (16, 0, a5))), some (vI x6), some (vI xs0)], [], (I, S)) r) (kf : p_ushr x4 xs0 ≠ 0 → Ev d mX11_switched (55, [some (vR (some (21, 0, a0))), some (vI x1), some (vI x2), some (vI x3), some (vI x4), some (vR (some (16, 0, a5))), some (vI x6), some (vI xs0)], [], (I, S)) r) : Ev d mX11_switched (45, [some (vR (some (21, 0, a0))), some (vI x1), some (vI x2), some (vI x3), some (vI x4), some (vR (some (16, 0, a5))), some (vI x6), none], [vI xs0], (I, S)) r :=
  s_istore [some (vR (some (21, 0, a0))), some (vI x1), some (vI x2), some (vI x3), some (vI x4), some (vR (some (16, 0, a5))), some (vI x6), some (vI xs0)] rfl rfl <|
  s_iload rfl rfl rfl <|
  s_iload rfl rfl rfl <|
  s_iushr rfl <|
  s_if_eq 63 rfl rfl kt kf
theorem b_X11_switched_55 {d : Nat} {I : Nat → Nat → Int} {S : PS} {a0 a5 : Nat} {x1 x2 x3 x4 x6 x7 : Int} : Ev d mX11_switched (55, [some (vR (some (21, 0, a0))), some (vI x1), some (vI x2), some (vI x3), some (vI x4), some (vR (some (16, 0, a5))), some (vI x6), some (vI x7)], [], (I, S)) (.inr 0, (I, exS S)) :=
  s_throw rfl rfl rfl rfl rfl rfl rfl
theorem b_X11_switched_63 {d : Nat} {r : PO × PM} {I : Nat → Nat → Int} {S : PS} {a0 a5 : Nat} {x1 x2 x3 x4 x6 x7 z : Int} {I1 : Nat → Nat → Int} {S1 : PS} (c : Ca d mX6_turned [vR (some (16, 0, a5)), vI x6, vI x3, vI x4] (I, S) (.inl (some (vI z))) (I1, S1)) (k : Ev (d + 1) mX11_switched (77, [some (vR (some (21, 0, a0))), some (vI x1), some (vI x2), some (vI x3), some (vI x4), some (vR (some (16, 0, a5))), some (vI x6), some (vI x7)], [vI z, vR (some (16, 0, a5)), vR (some (16, 0, a5))], (I1, S1)) r) : Ev (d + 1) mX11_switched (63, [some (vR (some (21, 0, a0))), some (vI x1), some (vI x2), some (vI x3), some (vI x4), some (vR (some (16, 0, a5))), some (vI x6), some (vI x7)], [], (I, S)) r :=
  s_aload rfl rfl rfl <|
  s_aload rfl rfl rfl <|
  s_aload rfl rfl rfl <|
  s_iload rfl rfl rfl <|
  s_iload_n rfl rfl rfl <|
  s_iload rfl rfl rfl <|
  s_cvI rfl rfl rfl rfl rfl c k
theorem b_X11_switched_77 {d : Nat} {r : PO × PM} {I : Nat → Nat → Int} {S : PS} {a0 a5 as0 as1 : Nat} {x1 x2 x3 x4 x6 x7 xs2 z : Int} {I1 : Nat → Nat → Int} {S1 : PS} (c : Ca d mX6_renamed [vR (some (16, 0, as1)), vI xs2] (I, S) (.inl (some (vI z))) (I1, S1)) (k : Ev (d + 1) mX11_switched (80, [some (vR (some (21, 0, a0))), some (vI x1), some (vI x2), some (vI x3), some (vI x4), some (vR (some (16, 0, a5))), some (vI x6), some (vI x7)], [vI z, vR (some (16, 0, as0))], (I1, S1)) r) : Ev (d + 1) mX11_switched (77, [some (vR (some (21, 0, a0))), some (vI x1), some (vI x2), some (vI x3), some (vI x4), some (vR (some (16, 0, a5))), some (vI x6), some (vI x7)], [vI xs2, vR (some (16, 0, as1)), vR (some (16, 0, as0))], (I, S)) r :=
  s_cvI rfl rfl rfl rfl rfl c k
theorem b_X11_switched_80 {d : Nat} {r : PO × PM} {I : Nat → Nat → Int} {S : PS} {a0 a5 as0 : Nat} {x1 x2 x3 x4 x6 x7 xs1 z : Int} {I1 : Nat → Nat → Int} {S1 : PS} (c : Ca d mX6_find [vR (some (16, 0, as0)), vI xs1] (I, S) (.inl (some (vI z))) (I1, S1)) (k : Ev (d + 1) mX11_switched (83, [some (vR (some (21, 0, a0))), some (vI x1), some (vI x2), some (vI x3), some (vI x4), some (vR (some (16, 0, a5))), some (vI x6), some (vI x7)], [vI z], (I1, S1)) r) : Ev (d + 1) mX11_switched (80, [some (vR (some (21, 0, a0))), some (vI x1), some (vI x2), some (vI x3), some (vI x4), some (vR (some (16, 0, a5))), some (vI x6), some (vI x7)], [vI xs1, vR (some (16, 0, as0))], (I, S)) r :=
  s_cvI rfl rfl rfl rfl rfl c k
theorem b_X11_switched_83 {d : Nat} {I : Nat → Nat → Int} {S : PS} {a0 a5 : Nat} {x1 x2 x3 x4 x6 x7 xs0 : Int} : Ev d mX11_switched (83, [some (vR (some (21, 0, a0))), some (vI x1), some (vI x2), some (vI x3), some (vI x4), some (vR (some (16, 0, a5))), some (vI x6), some (vI x7)], [vI xs0], (I, S)) (.inl (some (vI xs0)), (I, S)) :=
  s_ret rfl rfl
theorem b_X11_set_0 {d : Nat} {r : PO × PM} {I : Nat → Nat → Int} {S : PS} {a0 z : Nat} {x1 x2 x3 : Int} {I1 : Nat → Nat → Int} {S1 : PS} (c : Ca d mX11_pieceAt [vR (some (21, 0, a0)), vI x1] (I, S) (.inl (some (vR (some (14, 0, z))))) (I1, S1)) (k : Ev (d + 1) mX11_set (5, [some (vR (some (21, 0, a0))), some (vI x1), some (vI x2), some (vI x3), none], [vR (some (14, 0, z))], (I1, S1)) r) : Ev (d + 1) mX11_set (0, [some (vR (some (21, 0, a0))), some (vI x1), some (vI x2), some (vI x3), none], [], (I, S)) r :=
  s_aload_n rfl rfl rfl <|
  s_iload_n rfl rfl rfl <|
  s_cvR rfl rfl rfl rfl rfl c k
theorem bt_X11_set_0 {d e : Nat} {I : Nat → Nat → Int} {S : PS} {h1 : PM} {a0 : Nat} {x1 x2 x3 : Int} (c : Ca d mX11_pieceAt [vR (some (21, 0, a0)), vI x1] (I, S) (.inr e) h1) (hh : p_hnd mX11_set 2 e [some (vR (some (21, 0, a0))), some (vI x1), some (vI x2), some (vI x3), none] = some none) : Ev (d + 1) mX11_set (0, [some (vR (some (21, 0, a0))), some (vI x1), some (vI x2), some (vI x3), none], [], (I, S)) (.inr e, h1) :=
  s_aload_n rfl rfl rfl <|
  s_iload_n rfl rfl rfl <|
  s_cvT rfl rfl rfl rfl rfl c hh
theorem b_X11_set_5 {d : Nat} {r : PO × PM} {I : Nat → Nat → Int} {S : PS} {a0 as0 : Nat} {x1 x2 x3 : Int} (kt : x3 < 0 → Ev d mX11_set (25, [some (vR (some (21, 0, a0))), some (vI x1), some (vI x2), some (vI x3), some (vR (some (14, 0, as0)))], [], (I, S)) r) (kf : 0 ≤ x3 → Ev d mX11_set (11, [some (vR (some (21, 0, a0))), some (vI x1), some (vI x2), some (vI x3), some (vR (some (14, 0, as0)))], [], (I, S)) r) : Ev d mX11_set (5, [some (vR (some (21, 0, a0))), some (vI x1), some (vI x2), some (vI x3), none], [vR (some (14, 0, as0))], (I, S)) r :=
  s_astore [some (vR (some (21, 0, a0))), some (vI x1), some (vI x2), some (vI x3), some (vR (some (14, 0, as0)))] rfl rfl <|
  s_iload_n rfl rfl rfl <|
  s_if_lt 25 rfl rfl kt kf
theorem b_X11_set_11 {d : Nat} {r : PO × PM} {I : Nat → Nat → Int} {S : PS} {a0 a4 : Nat} {x1 x2 x3 : Int} (kt : 3 ≤ x3 → Ev d mX11_set (25, [some (vR (some (21, 0, a0))), some (vI x1), some (vI x2), some (vI x3), some (vR (some (14, 0, a4)))], [], (I, S)) r) (kf : x3 < 3 → Ev d mX11_set (16, [some (vR (some (21, 0, a0))), some (vI x1), some (vI x2), some (vI x3), some (vR (some (14, 0, a4)))], [], (I, S)) r) : Ev d mX11_set (11, [some (vR (some (21, 0, a0))), some (vI x1), some (vI x2), some (vI x3), some (vR (some (14, 0, a4)))], [], (I, S)) r :=
  s_iload_n rfl rfl rfl <|
  s_iconst rfl rfl <|
  s_icmp_ge 25 rfl rfl kt kf
theorem b_X11_set_16 {d : Nat} {r : PO × PM} {I : Nat → Nat → Int} {S : PS} {a0 a4 : Nat} {x1 x2 x3 : Int} (kt : x2 < 0 → Ev d mX11_set (25, [some (vR (some (21, 0, a0))), some (vI x1), some (vI x2), some (vI x3), some (vR (some (14, 0, a4)))], [], (I, S)) r) (kf : 0 ≤ x2 → Ev d mX11_set (20, [some (vR (some (21, 0, a0))), some (vI x1), some (vI x2), some (vI x3), some (vR (some (14, 0, a4)))], [], (I, S)) r) : Ev d mX11_set (16, [some (vR (some (21, 0, a0))), some (vI x1), some (vI x2), some (vI x3), some (vR (some (14, 0, a4)))], [], (I, S)) r :=
  s_iload_n rfl rfl rfl <|
  s_if_lt 25 rfl rfl kt kf
theorem b_X11_set_20 {d : Nat} {r : PO × PM} {I : Nat → Nat → Int} {S : PS} {a0 a4 : Nat} {x1 x2 x3 : Int} (kt : x2 ≤ 2 → Ev d mX11_set (33, [some (vR (some (21, 0, a0))), some (vI x1), some (vI x2), some (vI x3), some (vR (some (14, 0, a4)))], [], (I, S)) r) (kf : 2 < x2 → Ev d mX11_set (25, [some (vR (some (21, 0, a0))), some (vI x1), some (vI x2), some (vI x3), some (vR (some (14, 0, a4)))], [], (I, S)) r) : Ev d mX11_set (20, [some (vR (some (21, 0, a0))), some (vI x1), some (vI x2), some (vI x3), some (vR (some (14, 0, a4)))], [], (I, S)) r :=
  s_iload_n rfl rfl rfl <|
  s_iconst rfl rfl <|
  s_icmp_le 33 rfl rfl kt kf
theorem b_X11_set_25 {d : Nat} {I : Nat → Nat → Int} {S : PS} {a0 a4 : Nat} {x1 x2 x3 : Int} : Ev d mX11_set (25, [some (vR (some (21, 0, a0))), some (vI x1), some (vI x2), some (vI x3), some (vR (some (14, 0, a4)))], [], (I, S)) (.inr 1, (I, exS S)) :=
  s_throw rfl rfl rfl rfl rfl rfl rfl
theorem b_X11_set_33 {d : Nat} {r : PO × PM} {I : Nat → Nat → Int} {S : PS} {a0 a4 z : Nat} {x1 x2 x3 : Int} {I1 : Nat → Nat → Int} {S1 : PS} (c : Ca d mX11_studied [vR (some (21, 0, a0)), vR (some (14, 0, a4))] (I, S) (.inl (some (vR (some (14, 0, z))))) (I1, S1)) (k : Ev (d + 1) mX11_set (39, [some (vR (some (21, 0, a0))), some (vI x1), some (vI x2), some (vI x3), some (vR (some (14, 0, a4)))], [vR (some (14, 0, z))], (I1, S1)) r) : Ev (d + 1) mX11_set (33, [some (vR (some (21, 0, a0))), some (vI x1), some (vI x2), some (vI x3), some (vR (some (14, 0, a4)))], [], (I, S)) r :=
  s_aload_n rfl rfl rfl <|
  s_aload rfl rfl rfl <|
  s_cvR rfl rfl rfl rfl rfl c k
theorem b_X11_set_39 {d : Nat} {r : PO × PM} {I : Nat → Nat → Int} {S : PS} {a0 a4 as0 : Nat} {x1 x2 x3 : Int} (kt : x2 ≠ 0 → Ev d mX11_set (52, [some (vR (some (21, 0, a0))), some (vI x1), some (vI x2), some (vI x3), some (vR (some (14, 0, a4)))], [], (I, S)) r) (kf : x2 = 0 → Ev d mX11_set (44, [some (vR (some (21, 0, a0))), some (vI x1), some (vI x2), some (vI x3), some (vR (some (14, 0, a4)))], [], (I, S)) r) : Ev d mX11_set (39, [some (vR (some (21, 0, a0))), some (vI x1), some (vI x2), some (vI x3), some (vR (some (14, 0, a4)))], [vR (some (14, 0, as0))], (I, S)) r :=
  s_pop rfl rfl <|
  s_iload_n rfl rfl rfl <|
  s_if_ne 52 rfl rfl kt kf
theorem b_X11_set_44 {d : Nat} {I : Nat → Nat → Int} {S : PS} {a0 a4 p1 q1 : Nat} {x1 x2 x3 : Int} (hr1 : S.1 a4 11 = some (0, q1, p1)) (hi2 : 0 ≤ x3 ∧ x3 < (q1 : Nat)) : Ev d mX11_set (44, [some (vR (some (21, 0, a0))), some (vI x1), some (vI x2), some (vI x3), some (vR (some (14, 0, a4)))], [], (I, S)) (.inl (some (vI (I p1 x3.toNat))), (I, S)) :=
  s_aload rfl rfl rfl <|
  s_getR rfl rfl rfl hr1 <|
  s_iload_n rfl rfl rfl <|
  s_iald rfl rfl hi2 <|
  s_ret rfl rfl
theorem b_X11_set_52 {d : Nat} {r : PO × PM} {I : Nat → Nat → Int} {S : PS} {a0 a4 : Nat} {x1 x2 x3 : Int} (kt : x2 ≠ 1 → Ev d mX11_set (67, [some (vR (some (21, 0, a0))), some (vI x1), some (vI x2), some (vI x3), some (vR (some (14, 0, a4)))], [], (I, S)) r) (kf : x2 = 1 → Ev d mX11_set (57, [some (vR (some (21, 0, a0))), some (vI x1), some (vI x2), some (vI x3), some (vR (some (14, 0, a4)))], [], (I, S)) r) : Ev d mX11_set (52, [some (vR (some (21, 0, a0))), some (vI x1), some (vI x2), some (vI x3), some (vR (some (14, 0, a4)))], [], (I, S)) r :=
  s_iload_n rfl rfl rfl <|
  s_iconst rfl rfl <|
  s_icmp_ne 67 rfl rfl kt kf
theorem b_X11_set_57 {d : Nat} {r : PO × PM} {I : Nat → Nat → Int} {S : PS} {a0 a4 p1 q1 : Nat} {x1 x2 x3 : Int} (hr1 : S.1 a4 12 = some (0, q1, p1)) (hi2 : 0 ≤ x3 ∧ x3 < (q1 : Nat)) (k : Ev d mX11_set (74, [some (vR (some (21, 0, a0))), some (vI x1), some (vI x2), some (vI x3), some (vR (some (14, 0, a4)))], [vI (I p1 x3.toNat)], (I, S)) r) : Ev d mX11_set (57, [some (vR (some (21, 0, a0))), some (vI x1), some (vI x2), some (vI x3), some (vR (some (14, 0, a4)))], [], (I, S)) r :=
  s_aload rfl rfl rfl <|
  s_getR rfl rfl rfl hr1 <|
  s_iload_n rfl rfl rfl <|
  s_iald rfl rfl hi2 <|
  s_goto 74 rfl rfl k
theorem b_X11_set_67 {d : Nat} {r : PO × PM} {I : Nat → Nat → Int} {S : PS} {a0 a4 p1 q1 : Nat} {x1 x2 x3 : Int} (hr1 : S.1 a4 13 = some (0, q1, p1)) (hi2 : 0 ≤ x3 ∧ x3 < (q1 : Nat)) (k : Ev d mX11_set (74, [some (vR (some (21, 0, a0))), some (vI x1), some (vI x2), some (vI x3), some (vR (some (14, 0, a4)))], [vI (I p1 x3.toNat)], (I, S)) r) : Ev d mX11_set (67, [some (vR (some (21, 0, a0))), some (vI x1), some (vI x2), some (vI x3), some (vR (some (14, 0, a4)))], [], (I, S)) r :=
  s_aload rfl rfl rfl <|
  s_getR rfl rfl rfl hr1 <|
  s_iload_n rfl rfl rfl <|
  s_iald rfl rfl hi2 <|
  k
theorem b_X11_set_74 {d : Nat} {I : Nat → Nat → Int} {S : PS} {a0 a4 : Nat} {x1 x2 x3 xs0 : Int} : Ev d mX11_set (74, [some (vR (some (21, 0, a0))), some (vI x1), some (vI x2), some (vI x3), some (vR (some (14, 0, a4)))], [vI xs0], (I, S)) (.inl (some (vI xs0)), (I, S)) :=
  s_ret rfl rfl
theorem b_X11_sends_0 {d : Nat} {r : PO × PM} {I : Nat → Nat → Int} {S : PS} {a0 : Nat} {x1 x2 x3 x4 z : Int} {I1 : Nat → Nat → Int} {S1 : PS} (c : Ca d mX11_isDegree [vI x1] (I, S) (.inl (some (vI z))) (I1, S1)) (k : Ev (d + 1) mX11_sends (4, [some (vR (some (21, 0, a0))), some (vI x1), some (vI x2), some (vI x3), some (vI x4)], [vI z], (I1, S1)) r) : Ev (d + 1) mX11_sends (0, [some (vR (some (21, 0, a0))), some (vI x1), some (vI x2), some (vI x3), some (vI x4)], [], (I, S)) r :=
  s_iload_n rfl rfl rfl <|
  s_csI rfl rfl rfl rfl rfl rfl c k
theorem b_X11_sends_4 {d : Nat} {r : PO × PM} {I : Nat → Nat → Int} {S : PS} {a0 : Nat} {x1 x2 x3 x4 xs0 : Int} (kt : xs0 = 0 → Ev d mX11_sends (29, [some (vR (some (21, 0, a0))), some (vI x1), some (vI x2), some (vI x3), some (vI x4)], [], (I, S)) r) (kf : xs0 ≠ 0 → Ev d mX11_sends (7, [some (vR (some (21, 0, a0))), some (vI x1), some (vI x2), some (vI x3), some (vI x4)], [], (I, S)) r) : Ev d mX11_sends (4, [some (vR (some (21, 0, a0))), some (vI x1), some (vI x2), some (vI x3), some (vI x4)], [vI xs0], (I, S)) r :=
  s_if_eq 29 rfl rfl kt kf
theorem b_X11_sends_7 {d : Nat} {r : PO × PM} {I : Nat → Nat → Int} {S : PS} {a0 : Nat} {x1 x2 x3 x4 z : Int} {I1 : Nat → Nat → Int} {S1 : PS} (c : Ca d mX11_isDegree [vI x2] (I, S) (.inl (some (vI z))) (I1, S1)) (k : Ev (d + 1) mX11_sends (11, [some (vR (some (21, 0, a0))), some (vI x1), some (vI x2), some (vI x3), some (vI x4)], [vI z], (I1, S1)) r) : Ev (d + 1) mX11_sends (7, [some (vR (some (21, 0, a0))), some (vI x1), some (vI x2), some (vI x3), some (vI x4)], [], (I, S)) r :=
  s_iload_n rfl rfl rfl <|
  s_csI rfl rfl rfl rfl rfl rfl c k
theorem b_X11_sends_11 {d : Nat} {r : PO × PM} {I : Nat → Nat → Int} {S : PS} {a0 : Nat} {x1 x2 x3 x4 xs0 : Int} (kt : xs0 = 0 → Ev d mX11_sends (29, [some (vR (some (21, 0, a0))), some (vI x1), some (vI x2), some (vI x3), some (vI x4)], [], (I, S)) r) (kf : xs0 ≠ 0 → Ev d mX11_sends (14, [some (vR (some (21, 0, a0))), some (vI x1), some (vI x2), some (vI x3), some (vI x4)], [], (I, S)) r) : Ev d mX11_sends (11, [some (vR (some (21, 0, a0))), some (vI x1), some (vI x2), some (vI x3), some (vI x4)], [vI xs0], (I, S)) r :=
  s_if_eq 29 rfl rfl kt kf
theorem b_X11_sends_14 {d : Nat} {r : PO × PM} {I : Nat → Nat → Int} {S : PS} {a0 : Nat} {x1 x2 x3 x4 z : Int} {I1 : Nat → Nat → Int} {S1 : PS} (c : Ca d mX11_isDegree [vI x3] (I, S) (.inl (some (vI z))) (I1, S1)) (k : Ev (d + 1) mX11_sends (18, [some (vR (some (21, 0, a0))), some (vI x1), some (vI x2), some (vI x3), some (vI x4)], [vI z], (I1, S1)) r) : Ev (d + 1) mX11_sends (14, [some (vR (some (21, 0, a0))), some (vI x1), some (vI x2), some (vI x3), some (vI x4)], [], (I, S)) r :=
  s_iload_n rfl rfl rfl <|
  s_csI rfl rfl rfl rfl rfl rfl c k
theorem b_X11_sends_18 {d : Nat} {r : PO × PM} {I : Nat → Nat → Int} {S : PS} {a0 : Nat} {x1 x2 x3 x4 xs0 : Int} (kt : xs0 = 0 → Ev d mX11_sends (29, [some (vR (some (21, 0, a0))), some (vI x1), some (vI x2), some (vI x3), some (vI x4)], [], (I, S)) r) (kf : xs0 ≠ 0 → Ev d mX11_sends (21, [some (vR (some (21, 0, a0))), some (vI x1), some (vI x2), some (vI x3), some (vI x4)], [], (I, S)) r) : Ev d mX11_sends (18, [some (vR (some (21, 0, a0))), some (vI x1), some (vI x2), some (vI x3), some (vI x4)], [vI xs0], (I, S)) r :=
  s_if_eq 29 rfl rfl kt kf
theorem b_X11_sends_21 {d : Nat} {r : PO × PM} {I : Nat → Nat → Int} {S : PS} {a0 : Nat} {x1 x2 x3 x4 z : Int} {I1 : Nat → Nat → Int} {S1 : PS} (c : Ca d mX11_isDegree [vI x4] (I, S) (.inl (some (vI z))) (I1, S1)) (k : Ev (d + 1) mX11_sends (26, [some (vR (some (21, 0, a0))), some (vI x1), some (vI x2), some (vI x3), some (vI x4)], [vI z], (I1, S1)) r) : Ev (d + 1) mX11_sends (21, [some (vR (some (21, 0, a0))), some (vI x1), some (vI x2), some (vI x3), some (vI x4)], [], (I, S)) r :=
  s_iload rfl rfl rfl <|
  s_csI rfl rfl rfl rfl rfl rfl c k
theorem b_X11_sends_26 {d : Nat} {r : PO × PM} {I : Nat → Nat → Int} {S : PS} {a0 : Nat} {x1 x2 x3 x4 xs0 : Int} (kt : xs0 ≠ 0 → Ev d mX11_sends (37, [some (vR (some (21, 0, a0))), some (vI x1), some (vI x2), some (vI x3), some (vI x4)], [], (I, S)) r) (kf : xs0 = 0 → Ev d mX11_sends (29, [some (vR (some (21, 0, a0))), some (vI x1), some (vI x2), some (vI x3), some (vI x4)], [], (I, S)) r) : Ev d mX11_sends (26, [some (vR (some (21, 0, a0))), some (vI x1), some (vI x2), some (vI x3), some (vI x4)], [vI xs0], (I, S)) r :=
  s_if_ne 37 rfl rfl kt kf
theorem b_X11_sends_29 {d : Nat} {I : Nat → Nat → Int} {S : PS} {a0 : Nat} {x1 x2 x3 x4 : Int} : Ev d mX11_sends (29, [some (vR (some (21, 0, a0))), some (vI x1), some (vI x2), some (vI x3), some (vI x4)], [], (I, S)) (.inr 0, (I, exS S)) :=
  s_throw rfl rfl rfl rfl rfl rfl rfl
theorem b_X11_sends_37 {d : Nat} {r : PO × PM} {I : Nat → Nat → Int} {S : PS} {a0 p1 p2 p3 p4 q4 : Nat} {x1 x2 x3 x4 z : Int} {I1 : Nat → Nat → Int} {S1 : PS} (hr1 : S.1 a0 2 = some (11, 0, p1)) (hr2 : S.1 p1 2 = some (17, 0, p2)) (hr3 : S.1 a0 6 = some (19, 0, p3)) (hr4 : S.1 p3 1 = some (0, q4, p4)) (c : Ca d mX7_sent [vR (some (17, 0, p2)), vI x1, vI x2, vI x3, vI x4, vR (some (0, q4, p4))] (I, S) (.inl (some (vI z))) (I1, S1)) (k : Ev (d + 1) mX11_sends (59, [some (vR (some (21, 0, a0))), some (vI x1), some (vI x2), some (vI x3), some (vI x4)], [vI z], (I1, S1)) r) : Ev (d + 1) mX11_sends (37, [some (vR (some (21, 0, a0))), some (vI x1), some (vI x2), some (vI x3), some (vI x4)], [], (I, S)) r :=
  s_aload_n rfl rfl rfl <|
  s_getR rfl rfl rfl hr1 <|
  s_getR rfl rfl rfl hr2 <|
  s_iload_n rfl rfl rfl <|
  s_iload_n rfl rfl rfl <|
  s_iload_n rfl rfl rfl <|
  s_iload rfl rfl rfl <|
  s_aload_n rfl rfl rfl <|
  s_getR rfl rfl rfl hr3 <|
  s_getR rfl rfl rfl hr4 <|
  s_cvI rfl rfl rfl rfl rfl c k
theorem b_X11_sends_59 {d : Nat} {I : Nat → Nat → Int} {S : PS} {a0 : Nat} {x1 x2 x3 x4 xs0 : Int} : Ev d mX11_sends (59, [some (vR (some (21, 0, a0))), some (vI x1), some (vI x2), some (vI x3), some (vI x4)], [vI xs0], (I, S)) (.inl (some (vI xs0)), (I, S)) :=
  s_ret rfl rfl
theorem b_X11_hub_0 {d : Nat} {r : PO × PM} {I : Nat → Nat → Int} {S : PS} {a0 : Nat} {x1 x2 x3 : Int} (kt : x3 < 0 → Ev d mX11_hub (9, [some (vR (some (21, 0, a0))), some (vI x1), some (vI x2), some (vI x3)], [], (I, S)) r) (kf : 0 ≤ x3 → Ev d mX11_hub (4, [some (vR (some (21, 0, a0))), some (vI x1), some (vI x2), some (vI x3)], [], (I, S)) r) : Ev d mX11_hub (0, [some (vR (some (21, 0, a0))), some (vI x1), some (vI x2), some (vI x3)], [], (I, S)) r :=
  s_iload_n rfl rfl rfl <|
  s_if_lt 9 rfl rfl kt kf
theorem b_X11_hub_4 {d : Nat} {r : PO × PM} {I : Nat → Nat → Int} {S : PS} {a0 : Nat} {x1 x2 x3 : Int} (kt : x3 ≤ 1 → Ev d mX11_hub (17, [some (vR (some (21, 0, a0))), some (vI x1), some (vI x2), some (vI x3)], [], (I, S)) r) (kf : 1 < x3 → Ev d mX11_hub (9, [some (vR (some (21, 0, a0))), some (vI x1), some (vI x2), some (vI x3)], [], (I, S)) r) : Ev d mX11_hub (4, [some (vR (some (21, 0, a0))), some (vI x1), some (vI x2), some (vI x3)], [], (I, S)) r :=
  s_iload_n rfl rfl rfl <|
  s_iconst rfl rfl <|
  s_icmp_le 17 rfl rfl kt kf
theorem b_X11_hub_9 {d : Nat} {I : Nat → Nat → Int} {S : PS} {a0 : Nat} {x1 x2 x3 : Int} : Ev d mX11_hub (9, [some (vR (some (21, 0, a0))), some (vI x1), some (vI x2), some (vI x3)], [], (I, S)) (.inr 1, (I, exS S)) :=
  s_throw rfl rfl rfl rfl rfl rfl rfl
theorem b_X11_hub_17 {d : Nat} {r : PO × PM} {I : Nat → Nat → Int} {S : PS} {a0 : Nat} {x1 x2 x3 : Int} (kt : x1 < 5 → Ev d mX11_hub (37, [some (vR (some (21, 0, a0))), some (vI x1), some (vI x2), some (vI x3)], [], (I, S)) r) (kf : 5 ≤ x1 → Ev d mX11_hub (22, [some (vR (some (21, 0, a0))), some (vI x1), some (vI x2), some (vI x3)], [], (I, S)) r) : Ev d mX11_hub (17, [some (vR (some (21, 0, a0))), some (vI x1), some (vI x2), some (vI x3)], [], (I, S)) r :=
  s_iload_n rfl rfl rfl <|
  s_iconst rfl rfl <|
  s_icmp_lt 37 rfl rfl kt kf
theorem b_X11_hub_22 {d : Nat} {r : PO × PM} {I : Nat → Nat → Int} {S : PS} {a0 : Nat} {x1 x2 x3 : Int} (kt : 7 < x1 → Ev d mX11_hub (37, [some (vR (some (21, 0, a0))), some (vI x1), some (vI x2), some (vI x3)], [], (I, S)) r) (kf : x1 ≤ 7 → Ev d mX11_hub (28, [some (vR (some (21, 0, a0))), some (vI x1), some (vI x2), some (vI x3)], [], (I, S)) r) : Ev d mX11_hub (22, [some (vR (some (21, 0, a0))), some (vI x1), some (vI x2), some (vI x3)], [], (I, S)) r :=
  s_iload_n rfl rfl rfl <|
  s_bipush rfl rfl <|
  s_icmp_gt 37 rfl rfl kt kf
theorem b_X11_hub_28 {d : Nat} {r : PO × PM} {I : Nat → Nat → Int} {S : PS} {a0 : Nat} {x1 x2 x3 z : Int} {I1 : Nat → Nat → Int} {S1 : PS} (c : Ca d mX11_takeRow [vR (some (21, 0, a0)), vI x1, vI x2] (I, S) (.inl (some (vI z))) (I1, S1)) (k : Ev (d + 1) mX11_hub (34, [some (vR (some (21, 0, a0))), some (vI x1), some (vI x2), some (vI x3)], [vI z], (I1, S1)) r) : Ev (d + 1) mX11_hub (28, [some (vR (some (21, 0, a0))), some (vI x1), some (vI x2), some (vI x3)], [], (I, S)) r :=
  s_aload_n rfl rfl rfl <|
  s_iload_n rfl rfl rfl <|
  s_iload_n rfl rfl rfl <|
  s_cvI rfl rfl rfl rfl rfl c k
theorem b_X11_hub_34 {d : Nat} {r : PO × PM} {I : Nat → Nat → Int} {S : PS} {a0 : Nat} {x1 x2 x3 xs0 : Int} (kt : xs0 ≠ 0 → Ev d mX11_hub (45, [some (vR (some (21, 0, a0))), some (vI x1), some (vI x2), some (vI x3)], [], (I, S)) r) (kf : xs0 = 0 → Ev d mX11_hub (37, [some (vR (some (21, 0, a0))), some (vI x1), some (vI x2), some (vI x3)], [], (I, S)) r) : Ev d mX11_hub (34, [some (vR (some (21, 0, a0))), some (vI x1), some (vI x2), some (vI x3)], [vI xs0], (I, S)) r :=
  s_if_ne 45 rfl rfl kt kf
theorem b_X11_hub_37 {d : Nat} {I : Nat → Nat → Int} {S : PS} {a0 : Nat} {x1 x2 x3 : Int} : Ev d mX11_hub (37, [some (vR (some (21, 0, a0))), some (vI x1), some (vI x2), some (vI x3)], [], (I, S)) (.inr 0, (I, exS S)) :=
  s_throw rfl rfl rfl rfl rfl rfl rfl
theorem b_X11_hub_45 {d : Nat} {r : PO × PM} {I : Nat → Nat → Int} {S : PS} {a0 : Nat} {x1 x2 x3 : Int} (kt : x3 ≠ 0 → Ev d mX11_hub (74, [some (vR (some (21, 0, a0))), some (vI x1), some (vI x2), some (vI x3)], [], (I, S)) r) (kf : x3 = 0 → Ev d mX11_hub (49, [some (vR (some (21, 0, a0))), some (vI x1), some (vI x2), some (vI x3)], [], (I, S)) r) : Ev d mX11_hub (45, [some (vR (some (21, 0, a0))), some (vI x1), some (vI x2), some (vI x3)], [], (I, S)) r :=
  s_iload_n rfl rfl rfl <|
  s_if_ne 74 rfl rfl kt kf
theorem b_X11_hub_49 {d : Nat} {r : PO × PM} {I : Nat → Nat → Int} {S : PS} {a0 p1 p2 p3 q3 p4 p5 q5 : Nat} {x1 x2 x3 z : Int} {I1 : Nat → Nat → Int} {S1 : PS} (hr1 : S.1 a0 2 = some (11, 0, p1)) (hr2 : S.1 p1 2 = some (17, 0, p2)) (hr3 : S.1 a0 11 = some (0, q3, p3)) (hr4 : S.1 a0 6 = some (19, 0, p4)) (hr5 : S.1 p4 1 = some (0, q5, p5)) (c : Ca d mX7_behind [vR (some (17, 0, p2)), vI x1, vR (some (0, q3, p3)), vR (some (0, q5, p5))] (I, S) (.inl (some (vI z))) (I1, S1)) (k : Ev (d + 1) mX11_hub (71, [some (vR (some (21, 0, a0))), some (vI x1), some (vI x2), some (vI x3)], [vI z], (I1, S1)) r) : Ev (d + 1) mX11_hub (49, [some (vR (some (21, 0, a0))), some (vI x1), some (vI x2), some (vI x3)], [], (I, S)) r :=
  s_aload_n rfl rfl rfl <|
  s_getR rfl rfl rfl hr1 <|
  s_getR rfl rfl rfl hr2 <|
  s_iload_n rfl rfl rfl <|
  s_aload_n rfl rfl rfl <|
  s_getR rfl rfl rfl hr3 <|
  s_aload_n rfl rfl rfl <|
  s_getR rfl rfl rfl hr4 <|
  s_getR rfl rfl rfl hr5 <|
  s_cvI rfl rfl rfl rfl rfl c k
theorem b_X11_hub_71 {d : Nat} {r : PO × PM} {I : Nat → Nat → Int} {S : PS} {a0 : Nat} {x1 x2 x3 xs0 : Int} (k : Ev d mX11_hub (86, [some (vR (some (21, 0, a0))), some (vI x1), some (vI x2), some (vI x3)], [vI xs0], (I, S)) r) : Ev d mX11_hub (71, [some (vR (some (21, 0, a0))), some (vI x1), some (vI x2), some (vI x3)], [vI xs0], (I, S)) r :=
  s_goto 86 rfl rfl k
theorem b_X11_hub_74 {d : Nat} {r : PO × PM} {I : Nat → Nat → Int} {S : PS} {a0 p1 p2 q2 : Nat} {x1 x2 x3 z : Int} {I1 : Nat → Nat → Int} {S1 : PS} (hr1 : S.1 a0 2 = some (11, 0, p1)) (hr2 : S.1 a0 11 = some (0, q2, p2)) (c : Ca d mX0_heldPieces [vR (some (11, 0, p1)), vI x1, vR (some (0, q2, p2))] (I, S) (.inl (some (vI z))) (I1, S1)) (k : Ev (d + 1) mX11_hub (86, [some (vR (some (21, 0, a0))), some (vI x1), some (vI x2), some (vI x3)], [vI z], (I1, S1)) r) : Ev (d + 1) mX11_hub (74, [some (vR (some (21, 0, a0))), some (vI x1), some (vI x2), some (vI x3)], [], (I, S)) r :=
  s_aload_n rfl rfl rfl <|
  s_getR rfl rfl rfl hr1 <|
  s_iload_n rfl rfl rfl <|
  s_aload_n rfl rfl rfl <|
  s_getR rfl rfl rfl hr2 <|
  s_cvI rfl rfl rfl rfl rfl c k
theorem b_X11_hub_86 {d : Nat} {I : Nat → Nat → Int} {S : PS} {a0 : Nat} {x1 x2 x3 xs0 : Int} : Ev d mX11_hub (86, [some (vR (some (21, 0, a0))), some (vI x1), some (vI x2), some (vI x3)], [vI xs0], (I, S)) (.inl (some (vI xs0)), (I, S)) :=
  s_ret rfl rfl
theorem b_X11_cases_0 {d : Nat} {r : PO × PM} {I : Nat → Nat → Int} {S : PS} {a0 : Nat} {x1 x2 : Int} (kt : x2 < 0 → Ev d mX11_cases (9, [some (vR (some (21, 0, a0))), some (vI x1), some (vI x2)], [], (I, S)) r) (kf : 0 ≤ x2 → Ev d mX11_cases (4, [some (vR (some (21, 0, a0))), some (vI x1), some (vI x2)], [], (I, S)) r) : Ev d mX11_cases (0, [some (vR (some (21, 0, a0))), some (vI x1), some (vI x2)], [], (I, S)) r :=
  s_iload_n rfl rfl rfl <|
  s_if_lt 9 rfl rfl kt kf
theorem b_X11_cases_4 {d : Nat} {r : PO × PM} {I : Nat → Nat → Int} {S : PS} {a0 : Nat} {x1 x2 : Int} (kt : x2 ≤ 5 → Ev d mX11_cases (17, [some (vR (some (21, 0, a0))), some (vI x1), some (vI x2)], [], (I, S)) r) (kf : 5 < x2 → Ev d mX11_cases (9, [some (vR (some (21, 0, a0))), some (vI x1), some (vI x2)], [], (I, S)) r) : Ev d mX11_cases (4, [some (vR (some (21, 0, a0))), some (vI x1), some (vI x2)], [], (I, S)) r :=
  s_iload_n rfl rfl rfl <|
  s_iconst rfl rfl <|
  s_icmp_le 17 rfl rfl kt kf
theorem b_X11_cases_9 {d : Nat} {I : Nat → Nat → Int} {S : PS} {a0 : Nat} {x1 x2 : Int} : Ev d mX11_cases (9, [some (vR (some (21, 0, a0))), some (vI x1), some (vI x2)], [], (I, S)) (.inr 1, (I, exS S)) :=
  s_throw rfl rfl rfl rfl rfl rfl rfl
theorem b_X11_cases_17 {d : Nat} {r : PO × PM} {I : Nat → Nat → Int} {S : PS} {a0 : Nat} {x1 x2 : Int} (kt : x1 < 5 → Ev d mX11_cases (28, [some (vR (some (21, 0, a0))), some (vI x1), some (vI x2)], [], (I, S)) r) (kf : 5 ≤ x1 → Ev d mX11_cases (22, [some (vR (some (21, 0, a0))), some (vI x1), some (vI x2)], [], (I, S)) r) : Ev d mX11_cases (17, [some (vR (some (21, 0, a0))), some (vI x1), some (vI x2)], [], (I, S)) r :=
  s_iload_n rfl rfl rfl <|
  s_iconst rfl rfl <|
  s_icmp_lt 28 rfl rfl kt kf
theorem b_X11_cases_22 {d : Nat} {r : PO × PM} {I : Nat → Nat → Int} {S : PS} {a0 : Nat} {x1 x2 : Int} (kt : x1 ≤ 7 → Ev d mX11_cases (36, [some (vR (some (21, 0, a0))), some (vI x1), some (vI x2)], [], (I, S)) r) (kf : 7 < x1 → Ev d mX11_cases (28, [some (vR (some (21, 0, a0))), some (vI x1), some (vI x2)], [], (I, S)) r) : Ev d mX11_cases (22, [some (vR (some (21, 0, a0))), some (vI x1), some (vI x2)], [], (I, S)) r :=
  s_iload_n rfl rfl rfl <|
  s_bipush rfl rfl <|
  s_icmp_le 36 rfl rfl kt kf
theorem b_X11_cases_28 {d : Nat} {I : Nat → Nat → Int} {S : PS} {a0 : Nat} {x1 x2 : Int} : Ev d mX11_cases (28, [some (vR (some (21, 0, a0))), some (vI x1), some (vI x2)], [], (I, S)) (.inr 0, (I, exS S)) :=
  s_throw rfl rfl rfl rfl rfl rfl rfl
theorem b_X11_cases_36 {d : Nat} {r : PO × PM} {I : Nat → Nat → Int} {S : PS} {a0 p1 p2 p3 p4 q4 : Nat} {x1 x2 z : Int} {I1 : Nat → Nat → Int} {S1 : PS} (hr1 : S.1 a0 5 = some (12, 0, p1)) (hr2 : S.1 a0 2 = some (11, 0, p2)) (hr3 : S.1 a0 6 = some (19, 0, p3)) (hr4 : S.1 p3 1 = some (0, q4, p4)) (c : Ca d mX11_reduciblePieces [vR (some (21, 0, a0))] (I, S) (.inl (some (vI z))) (I1, S1)) (k : Ev (d + 1) mX11_cases (56, [some (vR (some (21, 0, a0))), some (vI x1), some (vI x2)], [vI z, vR (some (0, q4, p4)), vR (some (11, 0, p2)), vI x1, vR (some (12, 0, p1))], (I1, S1)) r) : Ev (d + 1) mX11_cases (36, [some (vR (some (21, 0, a0))), some (vI x1), some (vI x2)], [], (I, S)) r :=
  s_aload_n rfl rfl rfl <|
  s_getR rfl rfl rfl hr1 <|
  s_iload_n rfl rfl rfl <|
  s_aload_n rfl rfl rfl <|
  s_getR rfl rfl rfl hr2 <|
  s_aload_n rfl rfl rfl <|
  s_getR rfl rfl rfl hr3 <|
  s_getR rfl rfl rfl hr4 <|
  s_aload_n rfl rfl rfl <|
  s_cvI rfl rfl rfl rfl rfl c k
theorem b_X11_cases_56 {d : Nat} {r : PO × PM} {I : Nat → Nat → Int} {S : PS} {a0 as0 as2 ns3 as3 : Nat} {x1 x2 xs1 xs4 : Int} {I1 : Nat → Nat → Int} {S1 : PS} (c : Ca d mX1_tally [vR (some (12, 0, as0)), vI xs1, vR (some (11, 0, as2)), vR (some (0, ns3, as3)), vI xs4] (I, S) (.inl none) (I1, S1)) (k : Ev (d + 1) mX11_cases (59, [some (vR (some (21, 0, a0))), some (vI x1), some (vI x2)], [], (I1, S1)) r) : Ev (d + 1) mX11_cases (56, [some (vR (some (21, 0, a0))), some (vI x1), some (vI x2)], [vI xs4, vR (some (0, ns3, as3)), vR (some (11, 0, as2)), vI xs1, vR (some (12, 0, as0))], (I, S)) r :=
  s_cvV rfl rfl rfl rfl rfl c k
theorem b_X11_cases_59 {d : Nat} {I : Nat → Nat → Int} {S : PS} {a0 p1 p2 q2 : Nat} {x1 x2 : Int} (hr1 : S.1 a0 5 = some (12, 0, p1)) (hr2 : S.1 p1 3 = some (0, q2, p2)) (hi3 : 0 ≤ x2 ∧ x2 < (q2 : Nat)) : Ev d mX11_cases (59, [some (vR (some (21, 0, a0))), some (vI x1), some (vI x2)], [], (I, S)) (.inl (some (vI (I p2 x2.toNat))), (I, S)) :=
  s_aload_n rfl rfl rfl <|
  s_getR rfl rfl rfl hr1 <|
  s_getR rfl rfl rfl hr2 <|
  s_iload_n rfl rfl rfl <|
  s_iald rfl rfl hi3 <|
  s_ret rfl rfl
theorem b_X11_spot_0 {d : Nat} {r : PO × PM} {I : Nat → Nat → Int} {S : PS} {a0 : Nat} {x1 x2 : Int} {I1 : Nat → Nat → Int} {S1 : PS} (c : Ca d mX11_checkSpot [vR (some (21, 0, a0)), vI x1] (I, S) (.inl none) (I1, S1)) (k : Ev (d + 1) mX11_spot (5, [some (vR (some (21, 0, a0))), some (vI x1), some (vI x2)], [], (I1, S1)) r) : Ev (d + 1) mX11_spot (0, [some (vR (some (21, 0, a0))), some (vI x1), some (vI x2)], [], (I, S)) r :=
  s_aload_n rfl rfl rfl <|
  s_iload_n rfl rfl rfl <|
  s_cvV rfl rfl rfl rfl rfl c k
theorem bt_X11_spot_0 {d e : Nat} {I : Nat → Nat → Int} {S : PS} {h1 : PM} {a0 : Nat} {x1 x2 : Int} (c : Ca d mX11_checkSpot [vR (some (21, 0, a0)), vI x1] (I, S) (.inr e) h1) (hh : p_hnd mX11_spot 2 e [some (vR (some (21, 0, a0))), some (vI x1), some (vI x2)] = some none) : Ev (d + 1) mX11_spot (0, [some (vR (some (21, 0, a0))), some (vI x1), some (vI x2)], [], (I, S)) (.inr e, h1) :=
  s_aload_n rfl rfl rfl <|
  s_iload_n rfl rfl rfl <|
  s_cvT rfl rfl rfl rfl rfl c hh
theorem b_X11_spot_5 {d : Nat} {r : PO × PM} {I : Nat → Nat → Int} {S : PS} {a0 : Nat} {x1 x2 : Int} (k0 : x2 = 0 → Ev d mX11_spot (48, [some (vR (some (21, 0, a0))), some (vI x1), some (vI x2)], [], (I, S)) r) (k1 : x2 = 1 → Ev d mX11_spot (58, [some (vR (some (21, 0, a0))), some (vI x1), some (vI x2)], [], (I, S)) r) (k2 : x2 = 2 → Ev d mX11_spot (68, [some (vR (some (21, 0, a0))), some (vI x1), some (vI x2)], [], (I, S)) r) (k3 : x2 = 3 → Ev d mX11_spot (80, [some (vR (some (21, 0, a0))), some (vI x1), some (vI x2)], [], (I, S)) r) (k4 : x2 = 4 → Ev d mX11_spot (96, [some (vR (some (21, 0, a0))), some (vI x1), some (vI x2)], [], (I, S)) r) (k5 : x2 = 5 → Ev d mX11_spot (109, [some (vR (some (21, 0, a0))), some (vI x1), some (vI x2)], [], (I, S)) r) (k6 : x2 = 6 → Ev d mX11_spot (115, [some (vR (some (21, 0, a0))), some (vI x1), some (vI x2)], [], (I, S)) r) (kd : ¬(0 ≤ x2 ∧ x2 ≤ 6) → Ev d mX11_spot (121, [some (vR (some (21, 0, a0))), some (vI x1), some (vI x2)], [], (I, S)) r) : Ev d mX11_spot (5, [some (vR (some (21, 0, a0))), some (vI x1), some (vI x2)], [], (I, S)) r :=
  s_iload_n rfl rfl rfl <|
  s_sw 121 rfl (by decide) (fun c => kd c) (fun j hj => by
  match j, hj with
  | 0, _ => exact fun c => k0 c
  | 1, _ => exact fun c => k1 c
  | 2, _ => exact fun c => k2 c
  | 3, _ => exact fun c => k3 c
  | 4, _ => exact fun c => k4 c
  | 5, _ => exact fun c => k5 c
  | 6, _ => exact fun c => k6 c
  | j + 7, hj => exact absurd hj (by simp))
theorem b_X11_spot_48 {d : Nat} {I : Nat → Nat → Int} {S : PS} {a0 p1 p2 q2 : Nat} {x1 x2 : Int} (hr1 : S.1 a0 2 = some (11, 0, p1)) (hr2 : S.1 p1 3 = some (0, q2, p2)) (hi3 : 0 ≤ x1 ∧ x1 < (q2 : Nat)) : Ev d mX11_spot (48, [some (vR (some (21, 0, a0))), some (vI x1), some (vI x2)], [], (I, S)) (.inl (some (vI (I p2 x1.toNat))), (I, S)) :=
  s_aload_n rfl rfl rfl <|
  s_getR rfl rfl rfl hr1 <|
  s_getR rfl rfl rfl hr2 <|
  s_iload_n rfl rfl rfl <|
  s_iald rfl rfl hi3 <|
  s_ret rfl rfl
theorem b_X11_spot_58 {d : Nat} {I : Nat → Nat → Int} {S : PS} {a0 p1 p2 q2 : Nat} {x1 x2 : Int} (hr1 : S.1 a0 2 = some (11, 0, p1)) (hr2 : S.1 p1 4 = some (0, q2, p2)) (hi3 : 0 ≤ x1 ∧ x1 < (q2 : Nat)) : Ev d mX11_spot (58, [some (vR (some (21, 0, a0))), some (vI x1), some (vI x2)], [], (I, S)) (.inl (some (vI (I p2 x1.toNat))), (I, S)) :=
  s_aload_n rfl rfl rfl <|
  s_getR rfl rfl rfl hr1 <|
  s_getR rfl rfl rfl hr2 <|
  s_iload_n rfl rfl rfl <|
  s_iald rfl rfl hi3 <|
  s_ret rfl rfl
theorem b_X11_spot_68 {d : Nat} {r : PO × PM} {I : Nat → Nat → Int} {S : PS} {a0 p1 p2 : Nat} {x1 x2 z : Int} {I1 : Nat → Nat → Int} {S1 : PS} (hr1 : S.1 a0 6 = some (19, 0, p1)) (hr2 : S.1 p1 0 = some (13, 0, p2)) (c : Ca d mX2_colourAt [vR (some (13, 0, p2)), vI x1] (I, S) (.inl (some (vI z))) (I1, S1)) (k : Ev (d + 1) mX11_spot (79, [some (vR (some (21, 0, a0))), some (vI x1), some (vI x2)], [vI z], (I1, S1)) r) : Ev (d + 1) mX11_spot (68, [some (vR (some (21, 0, a0))), some (vI x1), some (vI x2)], [], (I, S)) r :=
  s_aload_n rfl rfl rfl <|
  s_getR rfl rfl rfl hr1 <|
  s_getR rfl rfl rfl hr2 <|
  s_iload_n rfl rfl rfl <|
  s_cvI rfl rfl rfl rfl rfl c k
theorem b_X11_spot_79 {d : Nat} {I : Nat → Nat → Int} {S : PS} {a0 : Nat} {x1 x2 xs0 : Int} : Ev d mX11_spot (79, [some (vR (some (21, 0, a0))), some (vI x1), some (vI x2)], [vI xs0], (I, S)) (.inl (some (vI xs0)), (I, S)) :=
  s_ret rfl rfl
theorem b_X11_spot_80 {d : Nat} {r : PO × PM} {I : Nat → Nat → Int} {S : PS} {a0 p1 p2 p3 : Nat} {x1 x2 z : Int} {I1 : Nat → Nat → Int} {S1 : PS} (hr1 : S.1 a0 6 = some (19, 0, p1)) (hr2 : S.1 p1 0 = some (13, 0, p2)) (hr3 : S.1 a0 2 = some (11, 0, p3)) (c : Ca d mX2_freeColours [vR (some (13, 0, p2)), vR (some (11, 0, p3)), vI x1] (I, S) (.inl (some (vI z))) (I1, S1)) (k : Ev (d + 1) mX11_spot (95, [some (vR (some (21, 0, a0))), some (vI x1), some (vI x2)], [vI z], (I1, S1)) r) : Ev (d + 1) mX11_spot (80, [some (vR (some (21, 0, a0))), some (vI x1), some (vI x2)], [], (I, S)) r :=
  s_aload_n rfl rfl rfl <|
  s_getR rfl rfl rfl hr1 <|
  s_getR rfl rfl rfl hr2 <|
  s_aload_n rfl rfl rfl <|
  s_getR rfl rfl rfl hr3 <|
  s_iload_n rfl rfl rfl <|
  s_cvI rfl rfl rfl rfl rfl c k
theorem b_X11_spot_95 {d : Nat} {I : Nat → Nat → Int} {S : PS} {a0 : Nat} {x1 x2 xs0 : Int} : Ev d mX11_spot (95, [some (vR (some (21, 0, a0))), some (vI x1), some (vI x2)], [vI xs0], (I, S)) (.inl (some (vI xs0)), (I, S)) :=
  s_ret rfl rfl
theorem b_X11_spot_96 {d : Nat} {r : PO × PM} {I : Nat → Nat → Int} {S : PS} {a0 p1 p2 q2 : Nat} {x1 x2 z : Int} {I1 : Nat → Nat → Int} {S1 : PS} (hr1 : S.1 a0 2 = some (11, 0, p1)) (hr2 : S.1 p1 3 = some (0, q2, p2)) (hi3 : 0 ≤ x1 ∧ x1 < (q2 : Nat)) (c : Ca d mX7_ahead [vI (I p2 x1.toNat)] (I, S) (.inl (some (vI z))) (I1, S1)) (k : Ev (d + 1) mX11_spot (108, [some (vR (some (21, 0, a0))), some (vI x1), some (vI x2)], [vI z], (I1, S1)) r) : Ev (d + 1) mX11_spot (96, [some (vR (some (21, 0, a0))), some (vI x1), some (vI x2)], [], (I, S)) r :=
  s_aload_n rfl rfl rfl <|
  s_getR rfl rfl rfl hr1 <|
  s_getR rfl rfl rfl hr2 <|
  s_iload_n rfl rfl rfl <|
  s_iald rfl rfl hi3 <|
  s_csI rfl rfl rfl rfl rfl rfl c k
theorem b_X11_spot_108 {d : Nat} {I : Nat → Nat → Int} {S : PS} {a0 : Nat} {x1 x2 xs0 : Int} : Ev d mX11_spot (108, [some (vR (some (21, 0, a0))), some (vI x1), some (vI x2)], [vI xs0], (I, S)) (.inl (some (vI xs0)), (I, S)) :=
  s_ret rfl rfl
theorem b_X11_spot_109 {d : Nat} {r : PO × PM} {I : Nat → Nat → Int} {S : PS} {a0 : Nat} {x1 x2 z : Int} {I1 : Nat → Nat → Int} {S1 : PS} (c : Ca d mX11_spotCharge [vR (some (21, 0, a0)), vI x1] (I, S) (.inl (some (vI z))) (I1, S1)) (k : Ev (d + 1) mX11_spot (114, [some (vR (some (21, 0, a0))), some (vI x1), some (vI x2)], [vI z], (I1, S1)) r) : Ev (d + 1) mX11_spot (109, [some (vR (some (21, 0, a0))), some (vI x1), some (vI x2)], [], (I, S)) r :=
  s_aload_n rfl rfl rfl <|
  s_iload_n rfl rfl rfl <|
  s_cvI rfl rfl rfl rfl rfl c k
theorem b_X11_spot_114 {d : Nat} {I : Nat → Nat → Int} {S : PS} {a0 : Nat} {x1 x2 xs0 : Int} : Ev d mX11_spot (114, [some (vR (some (21, 0, a0))), some (vI x1), some (vI x2)], [vI xs0], (I, S)) (.inl (some (vI xs0)), (I, S)) :=
  s_ret rfl rfl
theorem b_X11_spot_115 {d : Nat} {r : PO × PM} {I : Nat → Nat → Int} {S : PS} {a0 : Nat} {x1 x2 z : Int} {I1 : Nat → Nat → Int} {S1 : PS} (c : Ca d mX11_piecesHeldBy [vR (some (21, 0, a0)), vI x1] (I, S) (.inl (some (vI z))) (I1, S1)) (k : Ev (d + 1) mX11_spot (120, [some (vR (some (21, 0, a0))), some (vI x1), some (vI x2)], [vI z], (I1, S1)) r) : Ev (d + 1) mX11_spot (115, [some (vR (some (21, 0, a0))), some (vI x1), some (vI x2)], [], (I, S)) r :=
  s_aload_n rfl rfl rfl <|
  s_iload_n rfl rfl rfl <|
  s_cvI rfl rfl rfl rfl rfl c k
theorem b_X11_spot_120 {d : Nat} {I : Nat → Nat → Int} {S : PS} {a0 : Nat} {x1 x2 xs0 : Int} : Ev d mX11_spot (120, [some (vR (some (21, 0, a0))), some (vI x1), some (vI x2)], [vI xs0], (I, S)) (.inl (some (vI xs0)), (I, S)) :=
  s_ret rfl rfl
theorem b_X11_spot_121 {d : Nat} {I : Nat → Nat → Int} {S : PS} {a0 : Nat} {x1 x2 : Int} : Ev d mX11_spot (121, [some (vR (some (21, 0, a0))), some (vI x1), some (vI x2)], [], (I, S)) (.inr 1, (I, exS S)) :=
  s_throw rfl rfl rfl rfl rfl rfl rfl
theorem b_X11_scaled_0 {d : Nat} {r : PO × PM} {I : Nat → Nat → Int} {S : PS} {a0 : Nat} {x1 x2 : Int} {I1 : Nat → Nat → Int} {S1 : PS} (c : Ca d mX11_checkSpot [vR (some (21, 0, a0)), vI x1] (I, S) (.inl none) (I1, S1)) (k : Ev (d + 1) mX11_scaled (5, [some (vR (some (21, 0, a0))), some (vI x1), some (vI x2), none, none, none], [], (I1, S1)) r) : Ev (d + 1) mX11_scaled (0, [some (vR (some (21, 0, a0))), some (vI x1), some (vI x2), none, none, none], [], (I, S)) r :=
  s_aload_n rfl rfl rfl <|
  s_iload_n rfl rfl rfl <|
  s_cvV rfl rfl rfl rfl rfl c k
theorem bt_X11_scaled_0 {d e : Nat} {I : Nat → Nat → Int} {S : PS} {h1 : PM} {a0 : Nat} {x1 x2 : Int} (c : Ca d mX11_checkSpot [vR (some (21, 0, a0)), vI x1] (I, S) (.inr e) h1) (hh : p_hnd mX11_scaled 2 e [some (vR (some (21, 0, a0))), some (vI x1), some (vI x2), none, none, none] = some none) : Ev (d + 1) mX11_scaled (0, [some (vR (some (21, 0, a0))), some (vI x1), some (vI x2), none, none, none], [], (I, S)) (.inr e, h1) :=
  s_aload_n rfl rfl rfl <|
  s_iload_n rfl rfl rfl <|
  s_cvT rfl rfl rfl rfl rfl c hh
theorem b_X11_scaled_5 {d : Nat} {r : PO × PM} {I : Nat → Nat → Int} {S : PS} {a0 : Nat} {x1 x2 z : Int} {I1 : Nat → Nat → Int} {S1 : PS} (c : Ca d mX11_spotCharge [vR (some (21, 0, a0)), vI x1] (I, S) (.inl (some (vI z))) (I1, S1)) (k : Ev (d + 1) mX11_scaled (10, [some (vR (some (21, 0, a0))), some (vI x1), some (vI x2), none, none, none], [vI z], (I1, S1)) r) : Ev (d + 1) mX11_scaled (5, [some (vR (some (21, 0, a0))), some (vI x1), some (vI x2), none, none, none], [], (I, S)) r :=
  s_aload_n rfl rfl rfl <|
  s_iload_n rfl rfl rfl <|
  s_cvI rfl rfl rfl rfl rfl c k
theorem b_X11_scaled_10 {d : Nat} {r : PO × PM} {I : Nat → Nat → Int} {S : PS} {a0 : Nat} {x1 x2 xs0 : Int} (kt : p_lcmp (p_i2l (p_l2i (p_lmul (p_i2l xs0) (p_i2l x2)))) (p_lmul (p_i2l xs0) (p_i2l x2)) = 0 → Ev d mX11_scaled (35, [some (vR (some (21, 0, a0))), some (vI x1), some (vI x2), some (vL (p_lmul (p_i2l xs0) (p_i2l x2))), none, some (vI (p_l2i (p_lmul (p_i2l xs0) (p_i2l x2))))], [], (I, S)) r) (kf : p_lcmp (p_i2l (p_l2i (p_lmul (p_i2l xs0) (p_i2l x2)))) (p_lmul (p_i2l xs0) (p_i2l x2)) ≠ 0 → Ev d mX11_scaled (27, [some (vR (some (21, 0, a0))), some (vI x1), some (vI x2), some (vL (p_lmul (p_i2l xs0) (p_i2l x2))), none, some (vI (p_l2i (p_lmul (p_i2l xs0) (p_i2l x2))))], [], (I, S)) r) : Ev d mX11_scaled (10, [some (vR (some (21, 0, a0))), some (vI x1), some (vI x2), none, none, none], [vI xs0], (I, S)) r :=
  s_i2l rfl <|
  s_iload_n rfl rfl rfl <|
  s_i2l rfl <|
  s_lmul rfl <|
  s_lstore_n [some (vR (some (21, 0, a0))), some (vI x1), some (vI x2), some (vL (p_lmul (p_i2l xs0) (p_i2l x2))), none, none] rfl rfl <|
  s_lload_n rfl rfl rfl <|
  s_l2i rfl <|
  s_istore [some (vR (some (21, 0, a0))), some (vI x1), some (vI x2), some (vL (p_lmul (p_i2l xs0) (p_i2l x2))), none, some (vI (p_l2i (p_lmul (p_i2l xs0) (p_i2l x2))))] rfl rfl <|
  s_iload rfl rfl rfl <|
  s_i2l rfl <|
  s_lload_n rfl rfl rfl <|
  s_lcmp rfl <|
  s_if_eq 35 rfl rfl kt kf
theorem b_X11_scaled_27 {d : Nat} {I : Nat → Nat → Int} {S : PS} {a0 : Nat} {x1 x2 y3 x5 : Int} : Ev d mX11_scaled (27, [some (vR (some (21, 0, a0))), some (vI x1), some (vI x2), some (vL y3), none, some (vI x5)], [], (I, S)) (.inr 2, (I, exS S)) :=
  s_throw rfl rfl rfl rfl rfl rfl rfl
theorem b_X11_scaled_35 {d : Nat} {I : Nat → Nat → Int} {S : PS} {a0 : Nat} {x1 x2 y3 x5 : Int} : Ev d mX11_scaled (35, [some (vR (some (21, 0, a0))), some (vI x1), some (vI x2), some (vL y3), none, some (vI x5)], [], (I, S)) (.inl (some (vI x5)), (I, S)) :=
  s_iload rfl rfl rfl <|
  s_ret rfl rfl
theorem b_X11_rule_0 {d : Nat} {r : PO × PM} {I : Nat → Nat → Int} {S : PS} {a0 : Nat} {x1 x2 : Int} {I1 : Nat → Nat → Int} {S1 : PS} (c : Ca d mX11_checkRule [vR (some (21, 0, a0)), vI x1] (I, S) (.inl none) (I1, S1)) (k : Ev (d + 1) mX11_rule (5, [some (vR (some (21, 0, a0))), some (vI x1), some (vI x2)], [], (I1, S1)) r) : Ev (d + 1) mX11_rule (0, [some (vR (some (21, 0, a0))), some (vI x1), some (vI x2)], [], (I, S)) r :=
  s_aload_n rfl rfl rfl <|
  s_iload_n rfl rfl rfl <|
  s_cvV rfl rfl rfl rfl rfl c k
theorem bt_X11_rule_0 {d e : Nat} {I : Nat → Nat → Int} {S : PS} {h1 : PM} {a0 : Nat} {x1 x2 : Int} (c : Ca d mX11_checkRule [vR (some (21, 0, a0)), vI x1] (I, S) (.inr e) h1) (hh : p_hnd mX11_rule 2 e [some (vR (some (21, 0, a0))), some (vI x1), some (vI x2)] = some none) : Ev (d + 1) mX11_rule (0, [some (vR (some (21, 0, a0))), some (vI x1), some (vI x2)], [], (I, S)) (.inr e, h1) :=
  s_aload_n rfl rfl rfl <|
  s_iload_n rfl rfl rfl <|
  s_cvT rfl rfl rfl rfl rfl c hh
theorem b_X11_rule_5 {d : Nat} {r : PO × PM} {I : Nat → Nat → Int} {S : PS} {a0 : Nat} {x1 x2 : Int} (kt : x2 < 0 → Ev d mX11_rule (15, [some (vR (some (21, 0, a0))), some (vI x1), some (vI x2)], [], (I, S)) r) (kf : 0 ≤ x2 → Ev d mX11_rule (9, [some (vR (some (21, 0, a0))), some (vI x1), some (vI x2)], [], (I, S)) r) : Ev d mX11_rule (5, [some (vR (some (21, 0, a0))), some (vI x1), some (vI x2)], [], (I, S)) r :=
  s_iload_n rfl rfl rfl <|
  s_if_lt 15 rfl rfl kt kf
theorem b_X11_rule_9 {d : Nat} {r : PO × PM} {I : Nat → Nat → Int} {S : PS} {a0 : Nat} {x1 x2 : Int} (kt : x2 < 8 → Ev d mX11_rule (23, [some (vR (some (21, 0, a0))), some (vI x1), some (vI x2)], [], (I, S)) r) (kf : 8 ≤ x2 → Ev d mX11_rule (15, [some (vR (some (21, 0, a0))), some (vI x1), some (vI x2)], [], (I, S)) r) : Ev d mX11_rule (9, [some (vR (some (21, 0, a0))), some (vI x1), some (vI x2)], [], (I, S)) r :=
  s_iload_n rfl rfl rfl <|
  s_bipush rfl rfl <|
  s_icmp_lt 23 rfl rfl kt kf
theorem b_X11_rule_15 {d : Nat} {I : Nat → Nat → Int} {S : PS} {a0 : Nat} {x1 x2 : Int} : Ev d mX11_rule (15, [some (vR (some (21, 0, a0))), some (vI x1), some (vI x2)], [], (I, S)) (.inr 1, (I, exS S)) :=
  s_throw rfl rfl rfl rfl rfl rfl rfl
theorem b_X11_rule_23 {d : Nat} {r : PO × PM} {I : Nat → Nat → Int} {S : PS} {a0 : Nat} {x1 x2 : Int} (kt : x2 ≠ 0 → Ev d mX11_rule (39, [some (vR (some (21, 0, a0))), some (vI x1), some (vI x2)], [], (I, S)) r) (kf : x2 = 0 → Ev d mX11_rule (27, [some (vR (some (21, 0, a0))), some (vI x1), some (vI x2)], [], (I, S)) r) : Ev d mX11_rule (23, [some (vR (some (21, 0, a0))), some (vI x1), some (vI x2)], [], (I, S)) r :=
  s_iload_n rfl rfl rfl <|
  s_if_ne 39 rfl rfl kt kf
theorem b_X11_rule_27 {d : Nat} {r : PO × PM} {I : Nat → Nat → Int} {S : PS} {a0 p1 p2 q2 : Nat} {x1 x2 : Int} (hr1 : S.1 a0 6 = some (19, 0, p1)) (hr2 : S.1 p1 1 = some (0, q2, p2)) (hi3 : 0 ≤ x1 ∧ x1 < (q2 : Nat)) (k : Ev d mX11_rule (56, [some (vR (some (21, 0, a0))), some (vI x1), some (vI x2)], [vI (I p2 x1.toNat)], (I, S)) r) : Ev d mX11_rule (27, [some (vR (some (21, 0, a0))), some (vI x1), some (vI x2)], [], (I, S)) r :=
  s_aload_n rfl rfl rfl <|
  s_getR rfl rfl rfl hr1 <|
  s_getR rfl rfl rfl hr2 <|
  s_iload_n rfl rfl rfl <|
  s_iald rfl rfl hi3 <|
  s_goto 56 rfl rfl k
theorem b_X11_rule_39 {d : Nat} {r : PO × PM} {I : Nat → Nat → Int} {S : PS} {a0 p1 p2 p3 q3 : Nat} {x1 x2 : Int} (hr1 : S.1 a0 2 = some (11, 0, p1)) (hr2 : S.1 p1 2 = some (17, 0, p2)) (hr3 : S.1 p2 1 = some (0, q3, p3)) (ho4 : -2147483648 ≤ x1 * 8 ∧ x1 * 8 ≤ 2147483647) (ho5 : -2147483648 ≤ (x1 * 8) + x2 ∧ (x1 * 8) + x2 ≤ 2147483647) (hi6 : 0 ≤ (x1 * 8) + x2 ∧ (x1 * 8) + x2 < (q3 : Nat)) (k : Ev d mX11_rule (56, [some (vR (some (21, 0, a0))), some (vI x1), some (vI x2)], [vI (I p3 ((x1 * 8) + x2).toNat)], (I, S)) r) : Ev d mX11_rule (39, [some (vR (some (21, 0, a0))), some (vI x1), some (vI x2)], [], (I, S)) r :=
  s_aload_n rfl rfl rfl <|
  s_getR rfl rfl rfl hr1 <|
  s_getR rfl rfl rfl hr2 <|
  s_getR rfl rfl rfl hr3 <|
  s_iload_n rfl rfl rfl <|
  s_bipush rfl rfl <|
  s_imulp rfl ho4 <|
  s_iload_n rfl rfl rfl <|
  s_iaddp rfl ho5 <|
  s_iald rfl rfl hi6 <|
  k
theorem b_X11_rule_56 {d : Nat} {I : Nat → Nat → Int} {S : PS} {a0 : Nat} {x1 x2 xs0 : Int} : Ev d mX11_rule (56, [some (vR (some (21, 0, a0))), some (vI x1), some (vI x2)], [vI xs0], (I, S)) (.inl (some (vI xs0)), (I, S)) :=
  s_ret rfl rfl
theorem b_X11_paint_0 {d : Nat} {r : PO × PM} {I : Nat → Nat → Int} {S : PS} {a0 : Nat} {x1 x2 : Int} {I1 : Nat → Nat → Int} {S1 : PS} (c : Ca d mX11_checkSpot [vR (some (21, 0, a0)), vI x1] (I, S) (.inl none) (I1, S1)) (k : Ev (d + 1) mX11_paint (5, [some (vR (some (21, 0, a0))), some (vI x1), some (vI x2)], [], (I1, S1)) r) : Ev (d + 1) mX11_paint (0, [some (vR (some (21, 0, a0))), some (vI x1), some (vI x2)], [], (I, S)) r :=
  s_aload_n rfl rfl rfl <|
  s_iload_n rfl rfl rfl <|
  s_cvV rfl rfl rfl rfl rfl c k
theorem bt_X11_paint_0 {d e : Nat} {I : Nat → Nat → Int} {S : PS} {h1 : PM} {a0 : Nat} {x1 x2 : Int} (c : Ca d mX11_checkSpot [vR (some (21, 0, a0)), vI x1] (I, S) (.inr e) h1) (hh : p_hnd mX11_paint 2 e [some (vR (some (21, 0, a0))), some (vI x1), some (vI x2)] = some none) : Ev (d + 1) mX11_paint (0, [some (vR (some (21, 0, a0))), some (vI x1), some (vI x2)], [], (I, S)) (.inr e, h1) :=
  s_aload_n rfl rfl rfl <|
  s_iload_n rfl rfl rfl <|
  s_cvT rfl rfl rfl rfl rfl c hh
theorem b_X11_paint_5 {d : Nat} {r : PO × PM} {I : Nat → Nat → Int} {S : PS} {a0 p1 p2 p3 : Nat} {x1 x2 z : Int} {I1 : Nat → Nat → Int} {S1 : PS} (hr1 : S.1 a0 6 = some (19, 0, p1)) (hr2 : S.1 p1 0 = some (13, 0, p2)) (hr3 : S.1 a0 2 = some (11, 0, p3)) (c : Ca d mX2_mayPaint [vR (some (13, 0, p2)), vR (some (11, 0, p3)), vI x1, vI x2] (I, S) (.inl (some (vI z))) (I1, S1)) (k : Ev (d + 1) mX11_paint (21, [some (vR (some (21, 0, a0))), some (vI x1), some (vI x2)], [vI z], (I1, S1)) r) : Ev (d + 1) mX11_paint (5, [some (vR (some (21, 0, a0))), some (vI x1), some (vI x2)], [], (I, S)) r :=
  s_aload_n rfl rfl rfl <|
  s_getR rfl rfl rfl hr1 <|
  s_getR rfl rfl rfl hr2 <|
  s_aload_n rfl rfl rfl <|
  s_getR rfl rfl rfl hr3 <|
  s_iload_n rfl rfl rfl <|
  s_iload_n rfl rfl rfl <|
  s_cvI rfl rfl rfl rfl rfl c k
theorem b_X11_paint_21 {d : Nat} {r : PO × PM} {I : Nat → Nat → Int} {S : PS} {a0 : Nat} {x1 x2 xs0 : Int} (kt : xs0 ≠ 0 → Ev d mX11_paint (29, [some (vR (some (21, 0, a0))), some (vI x1), some (vI x2)], [], (I, S)) r) (kf : xs0 = 0 → Ev d mX11_paint (24, [some (vR (some (21, 0, a0))), some (vI x1), some (vI x2)], [], (I, S)) r) : Ev d mX11_paint (21, [some (vR (some (21, 0, a0))), some (vI x1), some (vI x2)], [vI xs0], (I, S)) r :=
  s_if_ne 29 rfl rfl kt kf
theorem b_X11_paint_24 {d : Nat} {r : PO × PM} {I : Nat → Nat → Int} {S : PS} {a0 : Nat} {x1 x2 z : Int} {I1 : Nat → Nat → Int} {S1 : PS} (c : Ca d mX11_refusedAct [vR (some (21, 0, a0))] (I, S) (.inl (some (vI z))) (I1, S1)) (k : Ev (d + 1) mX11_paint (28, [some (vR (some (21, 0, a0))), some (vI x1), some (vI x2)], [vI z], (I1, S1)) r) : Ev (d + 1) mX11_paint (24, [some (vR (some (21, 0, a0))), some (vI x1), some (vI x2)], [], (I, S)) r :=
  s_aload_n rfl rfl rfl <|
  s_cvI rfl rfl rfl rfl rfl c k
theorem b_X11_paint_28 {d : Nat} {I : Nat → Nat → Int} {S : PS} {a0 : Nat} {x1 x2 xs0 : Int} : Ev d mX11_paint (28, [some (vR (some (21, 0, a0))), some (vI x1), some (vI x2)], [vI xs0], (I, S)) (.inl (some (vI xs0)), (I, S)) :=
  s_ret rfl rfl
theorem b_X11_paint_29 {d : Nat} {r : PO × PM} {I : Nat → Nat → Int} {S : PS} {a0 p1 p2 : Nat} {x1 x2 : Int} {I1 : Nat → Nat → Int} {S1 : PS} (hr1 : S.1 a0 6 = some (19, 0, p1)) (hr2 : S.1 p1 0 = some (13, 0, p2)) (c : Ca d mX2_put [vR (some (13, 0, p2)), vI x1, vI x2] (I, S) (.inl none) (I1, S1)) (k : Ev (d + 1) mX11_paint (41, [some (vR (some (21, 0, a0))), some (vI x1), some (vI x2)], [], (I1, S1)) r) : Ev (d + 1) mX11_paint (29, [some (vR (some (21, 0, a0))), some (vI x1), some (vI x2)], [], (I, S)) r :=
  s_aload_n rfl rfl rfl <|
  s_getR rfl rfl rfl hr1 <|
  s_getR rfl rfl rfl hr2 <|
  s_iload_n rfl rfl rfl <|
  s_iload_n rfl rfl rfl <|
  s_cvV rfl rfl rfl rfl rfl c k
theorem b_X11_paint_41 {d : Nat} {r : PO × PM} {I : Nat → Nat → Int} {S : PS} {a0 p1 : Nat} {x1 x2 : Int} {I1 : Nat → Nat → Int} {S1 : PS} (hr1 : S.1 a0 6 = some (19, 0, p1)) (c : Ca d mX9_keepAct [vR (some (19, 0, p1)), vI 0, vI x1, vI x2] (I, S) (.inl none) (I1, S1)) (k : Ev (d + 1) mX11_paint (51, [some (vR (some (21, 0, a0))), some (vI x1), some (vI x2)], [], (I1, S1)) r) : Ev (d + 1) mX11_paint (41, [some (vR (some (21, 0, a0))), some (vI x1), some (vI x2)], [], (I, S)) r :=
  s_aload_n rfl rfl rfl <|
  s_getR rfl rfl rfl hr1 <|
  s_iconst rfl rfl <|
  s_iload_n rfl rfl rfl <|
  s_iload_n rfl rfl rfl <|
  s_cvV rfl rfl rfl rfl rfl c k
theorem b_X11_paint_51 {d : Nat} {r : PO × PM} {I : Nat → Nat → Int} {S : PS} {a0 p1 p2 : Nat} {x1 x2 z : Int} {I1 : Nat → Nat → Int} {S1 : PS} (hr1 : S.1 a0 6 = some (19, 0, p1)) (hr2 : S.1 p1 0 = some (13, 0, p2)) (c : Ca d mX2_paintedCount [vR (some (13, 0, p2))] (I, S) (.inl (some (vI z))) (I1, S1)) (k : Ev (d + 1) mX11_paint (61, [some (vR (some (21, 0, a0))), some (vI x1), some (vI x2)], [vI z], (I1, S1)) r) : Ev (d + 1) mX11_paint (51, [some (vR (some (21, 0, a0))), some (vI x1), some (vI x2)], [], (I, S)) r :=
  s_aload_n rfl rfl rfl <|
  s_getR rfl rfl rfl hr1 <|
  s_getR rfl rfl rfl hr2 <|
  s_cvI rfl rfl rfl rfl rfl c k
theorem b_X11_paint_61 {d : Nat} {I : Nat → Nat → Int} {S : PS} {a0 : Nat} {x1 x2 xs0 : Int} : Ev d mX11_paint (61, [some (vR (some (21, 0, a0))), some (vI x1), some (vI x2)], [vI xs0], (I, S)) (.inl (some (vI xs0)), (I, S)) :=
  s_ret rfl rfl
theorem b_X11_wash_0 {d : Nat} {r : PO × PM} {I : Nat → Nat → Int} {S : PS} {a0 : Nat} {x1 : Int} {I1 : Nat → Nat → Int} {S1 : PS} (c : Ca d mX11_checkSpot [vR (some (21, 0, a0)), vI x1] (I, S) (.inl none) (I1, S1)) (k : Ev (d + 1) mX11_wash (5, [some (vR (some (21, 0, a0))), some (vI x1), none], [], (I1, S1)) r) : Ev (d + 1) mX11_wash (0, [some (vR (some (21, 0, a0))), some (vI x1), none], [], (I, S)) r :=
  s_aload_n rfl rfl rfl <|
  s_iload_n rfl rfl rfl <|
  s_cvV rfl rfl rfl rfl rfl c k
theorem bt_X11_wash_0 {d e : Nat} {I : Nat → Nat → Int} {S : PS} {h1 : PM} {a0 : Nat} {x1 : Int} (c : Ca d mX11_checkSpot [vR (some (21, 0, a0)), vI x1] (I, S) (.inr e) h1) (hh : p_hnd mX11_wash 2 e [some (vR (some (21, 0, a0))), some (vI x1), none] = some none) : Ev (d + 1) mX11_wash (0, [some (vR (some (21, 0, a0))), some (vI x1), none], [], (I, S)) (.inr e, h1) :=
  s_aload_n rfl rfl rfl <|
  s_iload_n rfl rfl rfl <|
  s_cvT rfl rfl rfl rfl rfl c hh
theorem b_X11_wash_5 {d : Nat} {r : PO × PM} {I : Nat → Nat → Int} {S : PS} {a0 p1 p2 : Nat} {x1 z : Int} {I1 : Nat → Nat → Int} {S1 : PS} (hr1 : S.1 a0 6 = some (19, 0, p1)) (hr2 : S.1 p1 0 = some (13, 0, p2)) (c : Ca d mX2_colourAt [vR (some (13, 0, p2)), vI x1] (I, S) (.inl (some (vI z))) (I1, S1)) (k : Ev (d + 1) mX11_wash (16, [some (vR (some (21, 0, a0))), some (vI x1), none], [vI z], (I1, S1)) r) : Ev (d + 1) mX11_wash (5, [some (vR (some (21, 0, a0))), some (vI x1), none], [], (I, S)) r :=
  s_aload_n rfl rfl rfl <|
  s_getR rfl rfl rfl hr1 <|
  s_getR rfl rfl rfl hr2 <|
  s_iload_n rfl rfl rfl <|
  s_cvI rfl rfl rfl rfl rfl c k
theorem b_X11_wash_16 {d : Nat} {r : PO × PM} {I : Nat → Nat → Int} {S : PS} {a0 : Nat} {x1 xs0 : Int} (kt : xs0 ≠ (-1) → Ev d mX11_wash (27, [some (vR (some (21, 0, a0))), some (vI x1), some (vI xs0)], [], (I, S)) r) (kf : xs0 = (-1) → Ev d mX11_wash (22, [some (vR (some (21, 0, a0))), some (vI x1), some (vI xs0)], [], (I, S)) r) : Ev d mX11_wash (16, [some (vR (some (21, 0, a0))), some (vI x1), none], [vI xs0], (I, S)) r :=
  s_istore_n [some (vR (some (21, 0, a0))), some (vI x1), some (vI xs0)] rfl rfl <|
  s_iload_n rfl rfl rfl <|
  s_iconst rfl rfl <|
  s_icmp_ne 27 rfl rfl kt kf
theorem b_X11_wash_22 {d : Nat} {r : PO × PM} {I : Nat → Nat → Int} {S : PS} {a0 : Nat} {x1 x2 z : Int} {I1 : Nat → Nat → Int} {S1 : PS} (c : Ca d mX11_refusedAct [vR (some (21, 0, a0))] (I, S) (.inl (some (vI z))) (I1, S1)) (k : Ev (d + 1) mX11_wash (26, [some (vR (some (21, 0, a0))), some (vI x1), some (vI x2)], [vI z], (I1, S1)) r) : Ev (d + 1) mX11_wash (22, [some (vR (some (21, 0, a0))), some (vI x1), some (vI x2)], [], (I, S)) r :=
  s_aload_n rfl rfl rfl <|
  s_cvI rfl rfl rfl rfl rfl c k
theorem b_X11_wash_26 {d : Nat} {I : Nat → Nat → Int} {S : PS} {a0 : Nat} {x1 x2 xs0 : Int} : Ev d mX11_wash (26, [some (vR (some (21, 0, a0))), some (vI x1), some (vI x2)], [vI xs0], (I, S)) (.inl (some (vI xs0)), (I, S)) :=
  s_ret rfl rfl
theorem b_X11_wash_27 {d : Nat} {r : PO × PM} {I : Nat → Nat → Int} {S : PS} {a0 p1 p2 : Nat} {x1 x2 : Int} {I1 : Nat → Nat → Int} {S1 : PS} (hr1 : S.1 a0 6 = some (19, 0, p1)) (hr2 : S.1 p1 0 = some (13, 0, p2)) (c : Ca d mX2_take [vR (some (13, 0, p2)), vI x1, vI x2] (I, S) (.inl none) (I1, S1)) (k : Ev (d + 1) mX11_wash (39, [some (vR (some (21, 0, a0))), some (vI x1), some (vI x2)], [], (I1, S1)) r) : Ev (d + 1) mX11_wash (27, [some (vR (some (21, 0, a0))), some (vI x1), some (vI x2)], [], (I, S)) r :=
  s_aload_n rfl rfl rfl <|
  s_getR rfl rfl rfl hr1 <|
  s_getR rfl rfl rfl hr2 <|
  s_iload_n rfl rfl rfl <|
  s_iload_n rfl rfl rfl <|
  s_cvV rfl rfl rfl rfl rfl c k
theorem b_X11_wash_39 {d : Nat} {r : PO × PM} {I : Nat → Nat → Int} {S : PS} {a0 p1 : Nat} {x1 x2 : Int} {I1 : Nat → Nat → Int} {S1 : PS} (hr1 : S.1 a0 6 = some (19, 0, p1)) (c : Ca d mX9_keepAct [vR (some (19, 0, p1)), vI 1, vI x1, vI x2] (I, S) (.inl none) (I1, S1)) (k : Ev (d + 1) mX11_wash (49, [some (vR (some (21, 0, a0))), some (vI x1), some (vI x2)], [], (I1, S1)) r) : Ev (d + 1) mX11_wash (39, [some (vR (some (21, 0, a0))), some (vI x1), some (vI x2)], [], (I, S)) r :=
  s_aload_n rfl rfl rfl <|
  s_getR rfl rfl rfl hr1 <|
  s_iconst rfl rfl <|
  s_iload_n rfl rfl rfl <|
  s_iload_n rfl rfl rfl <|
  s_cvV rfl rfl rfl rfl rfl c k
theorem b_X11_wash_49 {d : Nat} {I : Nat → Nat → Int} {S : PS} {a0 : Nat} {x1 x2 : Int} : Ev d mX11_wash (49, [some (vR (some (21, 0, a0))), some (vI x1), some (vI x2)], [], (I, S)) (.inl (some (vI x2)), (I, S)) :=
  s_iload_n rfl rfl rfl <|
  s_ret rfl rfl
theorem b_X11_swap_0 {d : Nat} {r : PO × PM} {I : Nat → Nat → Int} {S : PS} {a0 : Nat} {x1 x2 : Int} {I1 : Nat → Nat → Int} {S1 : PS} (c : Ca d mX11_checkSpot [vR (some (21, 0, a0)), vI x1] (I, S) (.inl none) (I1, S1)) (k : Ev (d + 1) mX11_swap (5, [some (vR (some (21, 0, a0))), some (vI x1), some (vI x2), none, none], [], (I1, S1)) r) : Ev (d + 1) mX11_swap (0, [some (vR (some (21, 0, a0))), some (vI x1), some (vI x2), none, none], [], (I, S)) r :=
  s_aload_n rfl rfl rfl <|
  s_iload_n rfl rfl rfl <|
  s_cvV rfl rfl rfl rfl rfl c k
theorem bt_X11_swap_0 {d e : Nat} {I : Nat → Nat → Int} {S : PS} {h1 : PM} {a0 : Nat} {x1 x2 : Int} (c : Ca d mX11_checkSpot [vR (some (21, 0, a0)), vI x1] (I, S) (.inr e) h1) (hh : p_hnd mX11_swap 2 e [some (vR (some (21, 0, a0))), some (vI x1), some (vI x2), none, none] = some none) : Ev (d + 1) mX11_swap (0, [some (vR (some (21, 0, a0))), some (vI x1), some (vI x2), none, none], [], (I, S)) (.inr e, h1) :=
  s_aload_n rfl rfl rfl <|
  s_iload_n rfl rfl rfl <|
  s_cvT rfl rfl rfl rfl rfl c hh
theorem b_X11_swap_5 {d : Nat} {r : PO × PM} {I : Nat → Nat → Int} {S : PS} {a0 p1 p2 p3 : Nat} {x1 x2 z : Int} {I1 : Nat → Nat → Int} {S1 : PS} (hr1 : S.1 a0 6 = some (19, 0, p1)) (hr2 : S.1 p1 0 = some (13, 0, p2)) (hr3 : S.1 a0 2 = some (11, 0, p3)) (c : Ca d mX2_chainOf [vR (some (13, 0, p2)), vR (some (11, 0, p3)), vI x1, vI x2] (I, S) (.inl (some (vI z))) (I1, S1)) (k : Ev (d + 1) mX11_swap (21, [some (vR (some (21, 0, a0))), some (vI x1), some (vI x2), none, none], [vI z], (I1, S1)) r) : Ev (d + 1) mX11_swap (5, [some (vR (some (21, 0, a0))), some (vI x1), some (vI x2), none, none], [], (I, S)) r :=
  s_aload_n rfl rfl rfl <|
  s_getR rfl rfl rfl hr1 <|
  s_getR rfl rfl rfl hr2 <|
  s_aload_n rfl rfl rfl <|
  s_getR rfl rfl rfl hr3 <|
  s_iload_n rfl rfl rfl <|
  s_iload_n rfl rfl rfl <|
  s_cvI rfl rfl rfl rfl rfl c k
theorem b_X11_swap_21 {d : Nat} {r : PO × PM} {I : Nat → Nat → Int} {S : PS} {a0 : Nat} {x1 x2 xs0 : Int} (kt : xs0 ≠ 0 → Ev d mX11_swap (31, [some (vR (some (21, 0, a0))), some (vI x1), some (vI x2), some (vI xs0), none], [], (I, S)) r) (kf : xs0 = 0 → Ev d mX11_swap (26, [some (vR (some (21, 0, a0))), some (vI x1), some (vI x2), some (vI xs0), none], [], (I, S)) r) : Ev d mX11_swap (21, [some (vR (some (21, 0, a0))), some (vI x1), some (vI x2), none, none], [vI xs0], (I, S)) r :=
  s_istore_n [some (vR (some (21, 0, a0))), some (vI x1), some (vI x2), some (vI xs0), none] rfl rfl <|
  s_iload_n rfl rfl rfl <|
  s_if_ne 31 rfl rfl kt kf
theorem b_X11_swap_26 {d : Nat} {r : PO × PM} {I : Nat → Nat → Int} {S : PS} {a0 : Nat} {x1 x2 x3 z : Int} {I1 : Nat → Nat → Int} {S1 : PS} (c : Ca d mX11_refusedAct [vR (some (21, 0, a0))] (I, S) (.inl (some (vI z))) (I1, S1)) (k : Ev (d + 1) mX11_swap (30, [some (vR (some (21, 0, a0))), some (vI x1), some (vI x2), some (vI x3), none], [vI z], (I1, S1)) r) : Ev (d + 1) mX11_swap (26, [some (vR (some (21, 0, a0))), some (vI x1), some (vI x2), some (vI x3), none], [], (I, S)) r :=
  s_aload_n rfl rfl rfl <|
  s_cvI rfl rfl rfl rfl rfl c k
theorem b_X11_swap_30 {d : Nat} {I : Nat → Nat → Int} {S : PS} {a0 : Nat} {x1 x2 x3 xs0 : Int} : Ev d mX11_swap (30, [some (vR (some (21, 0, a0))), some (vI x1), some (vI x2), some (vI x3), none], [vI xs0], (I, S)) (.inl (some (vI xs0)), (I, S)) :=
  s_ret rfl rfl
theorem b_X11_swap_31 {d : Nat} {r : PO × PM} {I : Nat → Nat → Int} {S : PS} {a0 p1 p2 : Nat} {x1 x2 x3 z : Int} {I1 : Nat → Nat → Int} {S1 : PS} (hr1 : S.1 a0 6 = some (19, 0, p1)) (hr2 : S.1 p1 0 = some (13, 0, p2)) (c : Ca d mX2_colourAt [vR (some (13, 0, p2)), vI x1] (I, S) (.inl (some (vI z))) (I1, S1)) (k : Ev (d + 1) mX11_swap (42, [some (vR (some (21, 0, a0))), some (vI x1), some (vI x2), some (vI x3), none], [vI z], (I1, S1)) r) : Ev (d + 1) mX11_swap (31, [some (vR (some (21, 0, a0))), some (vI x1), some (vI x2), some (vI x3), none], [], (I, S)) r :=
  s_aload_n rfl rfl rfl <|
  s_getR rfl rfl rfl hr1 <|
  s_getR rfl rfl rfl hr2 <|
  s_iload_n rfl rfl rfl <|
  s_cvI rfl rfl rfl rfl rfl c k
theorem b_X11_swap_42 {d : Nat} {r : PO × PM} {I : Nat → Nat → Int} {S : PS} {a0 p1 p2 : Nat} {x1 x2 x3 xs0 : Int} {I1 : Nat → Nat → Int} {S1 : PS} (hr1 : S.1 a0 6 = some (19, 0, p1)) (hr2 : S.1 p1 0 = some (13, 0, p2)) (c : Ca d mX2_exchange [vR (some (13, 0, p2)), vI x3, vI xs0, vI x2] (I, S) (.inl none) (I1, S1)) (k : Ev (d + 1) mX11_swap (58, [some (vR (some (21, 0, a0))), some (vI x1), some (vI x2), some (vI x3), some (vI xs0)], [], (I1, S1)) r) : Ev (d + 1) mX11_swap (42, [some (vR (some (21, 0, a0))), some (vI x1), some (vI x2), some (vI x3), none], [vI xs0], (I, S)) r :=
  s_istore [some (vR (some (21, 0, a0))), some (vI x1), some (vI x2), some (vI x3), some (vI xs0)] rfl rfl <|
  s_aload_n rfl rfl rfl <|
  s_getR rfl rfl rfl hr1 <|
  s_getR rfl rfl rfl hr2 <|
  s_iload_n rfl rfl rfl <|
  s_iload rfl rfl rfl <|
  s_iload_n rfl rfl rfl <|
  s_cvV rfl rfl rfl rfl rfl c k
theorem b_X11_swap_58 {d : Nat} {r : PO × PM} {I : Nat → Nat → Int} {S : PS} {a0 p1 : Nat} {x1 x2 x3 x4 : Int} {I1 : Nat → Nat → Int} {S1 : PS} (hr1 : S.1 a0 6 = some (19, 0, p1)) (ho2 : -2147483648 ≤ x4 * 4 ∧ x4 * 4 ≤ 2147483647) (ho3 : -2147483648 ≤ (x4 * 4) + x2 ∧ (x4 * 4) + x2 ≤ 2147483647) (c : Ca d mX9_keepAct [vR (some (19, 0, p1)), vI 2, vI x3, vI ((x4 * 4) + x2)] (I, S) (.inl none) (I1, S1)) (k : Ev (d + 1) mX11_swap (73, [some (vR (some (21, 0, a0))), some (vI x1), some (vI x2), some (vI x3), some (vI x4)], [], (I1, S1)) r) : Ev (d + 1) mX11_swap (58, [some (vR (some (21, 0, a0))), some (vI x1), some (vI x2), some (vI x3), some (vI x4)], [], (I, S)) r :=
  s_aload_n rfl rfl rfl <|
  s_getR rfl rfl rfl hr1 <|
  s_iconst rfl rfl <|
  s_iload_n rfl rfl rfl <|
  s_iload rfl rfl rfl <|
  s_iconst rfl rfl <|
  s_imulp rfl ho2 <|
  s_iload_n rfl rfl rfl <|
  s_iaddp rfl ho3 <|
  s_cvV rfl rfl rfl rfl rfl c k
theorem b_X11_swap_73 {d : Nat} {r : PO × PM} {I : Nat → Nat → Int} {S : PS} {a0 : Nat} {x1 x2 x3 x4 z : Int} {I1 : Nat → Nat → Int} {S1 : PS} (c : Ca d mJ6_bitCount_0f7a4 [vI x3] (I, S) (.inl (some (vI z))) (I1, S1)) (k : Ev (d + 1) mX11_swap (77, [some (vR (some (21, 0, a0))), some (vI x1), some (vI x2), some (vI x3), some (vI x4)], [vI z], (I1, S1)) r) : Ev (d + 1) mX11_swap (73, [some (vR (some (21, 0, a0))), some (vI x1), some (vI x2), some (vI x3), some (vI x4)], [], (I, S)) r :=
  s_iload_n rfl rfl rfl <|
  s_csI rfl rfl rfl rfl rfl rfl c k
theorem b_X11_swap_77 {d : Nat} {I : Nat → Nat → Int} {S : PS} {a0 : Nat} {x1 x2 x3 x4 xs0 : Int} : Ev d mX11_swap (77, [some (vR (some (21, 0, a0))), some (vI x1), some (vI x2), some (vI x3), some (vI x4)], [vI xs0], (I, S)) (.inl (some (vI xs0)), (I, S)) :=
  s_ret rfl rfl
theorem b_X11_tune_0 {d : Nat} {r : PO × PM} {I : Nat → Nat → Int} {S : PS} {a0 : Nat} {x1 x2 : Int} {I1 : Nat → Nat → Int} {S1 : PS} (c : Ca d mX11_checkRule [vR (some (21, 0, a0)), vI x1] (I, S) (.inl none) (I1, S1)) (k : Ev (d + 1) mX11_tune (5, [some (vR (some (21, 0, a0))), some (vI x1), some (vI x2), none], [], (I1, S1)) r) : Ev (d + 1) mX11_tune (0, [some (vR (some (21, 0, a0))), some (vI x1), some (vI x2), none], [], (I, S)) r :=
  s_aload_n rfl rfl rfl <|
  s_iload_n rfl rfl rfl <|
  s_cvV rfl rfl rfl rfl rfl c k
theorem bt_X11_tune_0 {d e : Nat} {I : Nat → Nat → Int} {S : PS} {h1 : PM} {a0 : Nat} {x1 x2 : Int} (c : Ca d mX11_checkRule [vR (some (21, 0, a0)), vI x1] (I, S) (.inr e) h1) (hh : p_hnd mX11_tune 2 e [some (vR (some (21, 0, a0))), some (vI x1), some (vI x2), none] = some none) : Ev (d + 1) mX11_tune (0, [some (vR (some (21, 0, a0))), some (vI x1), some (vI x2), none], [], (I, S)) (.inr e, h1) :=
  s_aload_n rfl rfl rfl <|
  s_iload_n rfl rfl rfl <|
  s_cvT rfl rfl rfl rfl rfl c hh
theorem b_X11_tune_5 {d : Nat} {r : PO × PM} {I : Nat → Nat → Int} {S : PS} {a0 p1 p2 q2 : Nat} {x1 x2 : Int} (hr1 : S.1 a0 6 = some (19, 0, p1)) (hr2 : S.1 p1 1 = some (0, q2, p2)) (hi3 : 0 ≤ x1 ∧ x1 < (q2 : Nat)) (kt : x2 < 1 → Ev d mX11_tune (31, [some (vR (some (21, 0, a0))), some (vI x1), some (vI x2), some (vI (I p2 x1.toNat))], [], (I, S)) r) (kf : 1 ≤ x2 → Ev d mX11_tune (20, [some (vR (some (21, 0, a0))), some (vI x1), some (vI x2), some (vI (I p2 x1.toNat))], [], (I, S)) r) : Ev d mX11_tune (5, [some (vR (some (21, 0, a0))), some (vI x1), some (vI x2), none], [], (I, S)) r :=
  s_aload_n rfl rfl rfl <|
  s_getR rfl rfl rfl hr1 <|
  s_getR rfl rfl rfl hr2 <|
  s_iload_n rfl rfl rfl <|
  s_iald rfl rfl hi3 <|
  s_istore_n [some (vR (some (21, 0, a0))), some (vI x1), some (vI x2), some (vI (I p2 x1.toNat))] rfl rfl <|
  s_iload_n rfl rfl rfl <|
  s_iconst rfl rfl <|
  s_icmp_lt 31 rfl rfl kt kf
theorem b_X11_tune_20 {d : Nat} {r : PO × PM} {I : Nat → Nat → Int} {S : PS} {a0 : Nat} {x1 x2 x3 : Int} (kt : 99 < x2 → Ev d mX11_tune (31, [some (vR (some (21, 0, a0))), some (vI x1), some (vI x2), some (vI x3)], [], (I, S)) r) (kf : x2 ≤ 99 → Ev d mX11_tune (26, [some (vR (some (21, 0, a0))), some (vI x1), some (vI x2), some (vI x3)], [], (I, S)) r) : Ev d mX11_tune (20, [some (vR (some (21, 0, a0))), some (vI x1), some (vI x2), some (vI x3)], [], (I, S)) r :=
  s_iload_n rfl rfl rfl <|
  s_bipush rfl rfl <|
  s_icmp_gt 31 rfl rfl kt kf
theorem b_X11_tune_26 {d : Nat} {r : PO × PM} {I : Nat → Nat → Int} {S : PS} {a0 : Nat} {x1 x2 x3 : Int} (kt : x2 ≠ x3 → Ev d mX11_tune (36, [some (vR (some (21, 0, a0))), some (vI x1), some (vI x2), some (vI x3)], [], (I, S)) r) (kf : x2 = x3 → Ev d mX11_tune (31, [some (vR (some (21, 0, a0))), some (vI x1), some (vI x2), some (vI x3)], [], (I, S)) r) : Ev d mX11_tune (26, [some (vR (some (21, 0, a0))), some (vI x1), some (vI x2), some (vI x3)], [], (I, S)) r :=
  s_iload_n rfl rfl rfl <|
  s_iload_n rfl rfl rfl <|
  s_icmp_ne 36 rfl rfl kt kf
theorem b_X11_tune_31 {d : Nat} {r : PO × PM} {I : Nat → Nat → Int} {S : PS} {a0 : Nat} {x1 x2 x3 z : Int} {I1 : Nat → Nat → Int} {S1 : PS} (c : Ca d mX11_refusedAct [vR (some (21, 0, a0))] (I, S) (.inl (some (vI z))) (I1, S1)) (k : Ev (d + 1) mX11_tune (35, [some (vR (some (21, 0, a0))), some (vI x1), some (vI x2), some (vI x3)], [vI z], (I1, S1)) r) : Ev (d + 1) mX11_tune (31, [some (vR (some (21, 0, a0))), some (vI x1), some (vI x2), some (vI x3)], [], (I, S)) r :=
  s_aload_n rfl rfl rfl <|
  s_cvI rfl rfl rfl rfl rfl c k
theorem b_X11_tune_35 {d : Nat} {I : Nat → Nat → Int} {S : PS} {a0 : Nat} {x1 x2 x3 xs0 : Int} : Ev d mX11_tune (35, [some (vR (some (21, 0, a0))), some (vI x1), some (vI x2), some (vI x3)], [vI xs0], (I, S)) (.inl (some (vI xs0)), (I, S)) :=
  s_ret rfl rfl
theorem b_X11_tune_36 {d : Nat} {r : PO × PM} {I : Nat → Nat → Int} {S : PS} {a0 p1 p2 q2 : Nat} {x1 x2 x3 : Int} {I1 : Nat → Nat → Int} {S1 : PS} (hr1 : S.1 a0 6 = some (19, 0, p1)) (hr2 : S.1 p1 1 = some (0, q2, p2)) (hi3 : 0 ≤ x1 ∧ x1 < (q2 : Nat)) (c : Ca d mX9_keepAct [vR (some (19, 0, p1)), vI 3, vI x1, vI x3] ((up2 I p2 (x1.toNat) x2), S) (.inl none) (I1, S1)) (k : Ev (d + 1) mX11_tune (56, [some (vR (some (21, 0, a0))), some (vI x1), some (vI x2), some (vI x3)], [], (I1, S1)) r) : Ev (d + 1) mX11_tune (36, [some (vR (some (21, 0, a0))), some (vI x1), some (vI x2), some (vI x3)], [], (I, S)) r :=
  s_aload_n rfl rfl rfl <|
  s_getR rfl rfl rfl hr1 <|
  s_getR rfl rfl rfl hr2 <|
  s_iload_n rfl rfl rfl <|
  s_iload_n rfl rfl rfl <|
  s_iast rfl hi3 <|
  s_aload_n rfl rfl rfl <|
  s_getR rfl rfl rfl hr1 <|
  s_iconst rfl rfl <|
  s_iload_n rfl rfl rfl <|
  s_iload_n rfl rfl rfl <|
  s_cvV rfl rfl rfl rfl rfl c k
theorem b_X11_tune_56 {d : Nat} {I : Nat → Nat → Int} {S : PS} {a0 : Nat} {x1 x2 x3 : Int} : Ev d mX11_tune (56, [some (vR (some (21, 0, a0))), some (vI x1), some (vI x2), some (vI x3)], [], (I, S)) (.inl (some (vI x3)), (I, S)) :=
  s_iload_n rfl rfl rfl <|
  s_ret rfl rfl
theorem b_X11_undo_0 {d : Nat} {r : PO × PM} {I : Nat → Nat → Int} {S : PS} {a0 p1 : Nat} (hr1 : S.1 a0 6 = some (19, 0, p1)) (kt : I p1 2 ≠ 0 → Ev d mX11_undo (12, [some (vR (some (21, 0, a0)))], [], (I, S)) r) (kf : I p1 2 = 0 → Ev d mX11_undo (10, [some (vR (some (21, 0, a0)))], [], (I, S)) r) : Ev d mX11_undo (0, [some (vR (some (21, 0, a0)))], [], (I, S)) r :=
  s_aload_n rfl rfl rfl <|
  s_getR rfl rfl rfl hr1 <|
  s_getI rfl rfl rfl <|
  s_if_ne 12 rfl rfl kt kf
theorem b_X11_undo_10 {d : Nat} {I : Nat → Nat → Int} {S : PS} {a0 : Nat} : Ev d mX11_undo (10, [some (vR (some (21, 0, a0)))], [], (I, S)) (.inl (some (vI (-1))), (I, S)) :=
  s_iconst rfl rfl <|
  s_ret rfl rfl
theorem b_X11_undo_12 {d : Nat} {r : PO × PM} {I : Nat → Nat → Int} {S : PS} {a0 p1 : Nat} {I1 : Nat → Nat → Int} {S1 : PS} (hr1 : S.1 a0 6 = some (19, 0, p1)) (c : Ca d mX9_undoLast [vR (some (19, 0, p1))] (I, S) (.inl none) (I1, S1)) (k : Ev (d + 1) mX11_undo (19, [some (vR (some (21, 0, a0)))], [], (I1, S1)) r) : Ev (d + 1) mX11_undo (12, [some (vR (some (21, 0, a0)))], [], (I, S)) r :=
  s_aload_n rfl rfl rfl <|
  s_getR rfl rfl rfl hr1 <|
  s_cvV rfl rfl rfl rfl rfl c k
theorem b_X11_undo_19 {d : Nat} {I : Nat → Nat → Int} {S : PS} {a0 p1 : Nat} (hr1 : S.1 a0 6 = some (19, 0, p1)) : Ev d mX11_undo (19, [some (vR (some (21, 0, a0)))], [], (I, S)) (.inl (some (vI (I p1 2))), (I, S)) :=
  s_aload_n rfl rfl rfl <|
  s_getR rfl rfl rfl hr1 <|
  s_getI rfl rfl rfl <|
  s_ret rfl rfl
theorem b_X11_chain_0 {d : Nat} {r : PO × PM} {I : Nat → Nat → Int} {S : PS} {a0 : Nat} {x1 x2 : Int} {I1 : Nat → Nat → Int} {S1 : PS} (c : Ca d mX11_checkSpot [vR (some (21, 0, a0)), vI x1] (I, S) (.inl none) (I1, S1)) (k : Ev (d + 1) mX11_chain (5, [some (vR (some (21, 0, a0))), some (vI x1), some (vI x2)], [], (I1, S1)) r) : Ev (d + 1) mX11_chain (0, [some (vR (some (21, 0, a0))), some (vI x1), some (vI x2)], [], (I, S)) r :=
  s_aload_n rfl rfl rfl <|
  s_iload_n rfl rfl rfl <|
  s_cvV rfl rfl rfl rfl rfl c k
theorem bt_X11_chain_0 {d e : Nat} {I : Nat → Nat → Int} {S : PS} {h1 : PM} {a0 : Nat} {x1 x2 : Int} (c : Ca d mX11_checkSpot [vR (some (21, 0, a0)), vI x1] (I, S) (.inr e) h1) (hh : p_hnd mX11_chain 2 e [some (vR (some (21, 0, a0))), some (vI x1), some (vI x2)] = some none) : Ev (d + 1) mX11_chain (0, [some (vR (some (21, 0, a0))), some (vI x1), some (vI x2)], [], (I, S)) (.inr e, h1) :=
  s_aload_n rfl rfl rfl <|
  s_iload_n rfl rfl rfl <|
  s_cvT rfl rfl rfl rfl rfl c hh
theorem b_X11_chain_5 {d : Nat} {r : PO × PM} {I : Nat → Nat → Int} {S : PS} {a0 : Nat} {x1 x2 z : Int} {I1 : Nat → Nat → Int} {S1 : PS} (c : Ca d mX11_isColour [vI x2] (I, S) (.inl (some (vI z))) (I1, S1)) (k : Ev (d + 1) mX11_chain (9, [some (vR (some (21, 0, a0))), some (vI x1), some (vI x2)], [vI z], (I1, S1)) r) : Ev (d + 1) mX11_chain (5, [some (vR (some (21, 0, a0))), some (vI x1), some (vI x2)], [], (I, S)) r :=
  s_iload_n rfl rfl rfl <|
  s_csI rfl rfl rfl rfl rfl rfl c k
theorem b_X11_chain_9 {d : Nat} {r : PO × PM} {I : Nat → Nat → Int} {S : PS} {a0 : Nat} {x1 x2 xs0 : Int} (kt : xs0 ≠ 0 → Ev d mX11_chain (20, [some (vR (some (21, 0, a0))), some (vI x1), some (vI x2)], [], (I, S)) r) (kf : xs0 = 0 → Ev d mX11_chain (12, [some (vR (some (21, 0, a0))), some (vI x1), some (vI x2)], [], (I, S)) r) : Ev d mX11_chain (9, [some (vR (some (21, 0, a0))), some (vI x1), some (vI x2)], [vI xs0], (I, S)) r :=
  s_if_ne 20 rfl rfl kt kf
theorem b_X11_chain_12 {d : Nat} {I : Nat → Nat → Int} {S : PS} {a0 : Nat} {x1 x2 : Int} : Ev d mX11_chain (12, [some (vR (some (21, 0, a0))), some (vI x1), some (vI x2)], [], (I, S)) (.inr 0, (I, exS S)) :=
  s_throw rfl rfl rfl rfl rfl rfl rfl
theorem b_X11_chain_20 {d : Nat} {r : PO × PM} {I : Nat → Nat → Int} {S : PS} {a0 p1 p2 p3 : Nat} {x1 x2 z : Int} {I1 : Nat → Nat → Int} {S1 : PS} (hr1 : S.1 a0 6 = some (19, 0, p1)) (hr2 : S.1 p1 0 = some (13, 0, p2)) (hr3 : S.1 a0 2 = some (11, 0, p3)) (c : Ca d mX2_chainOf [vR (some (13, 0, p2)), vR (some (11, 0, p3)), vI x1, vI x2] (I, S) (.inl (some (vI z))) (I1, S1)) (k : Ev (d + 1) mX11_chain (36, [some (vR (some (21, 0, a0))), some (vI x1), some (vI x2)], [vI z], (I1, S1)) r) : Ev (d + 1) mX11_chain (20, [some (vR (some (21, 0, a0))), some (vI x1), some (vI x2)], [], (I, S)) r :=
  s_aload_n rfl rfl rfl <|
  s_getR rfl rfl rfl hr1 <|
  s_getR rfl rfl rfl hr2 <|
  s_aload_n rfl rfl rfl <|
  s_getR rfl rfl rfl hr3 <|
  s_iload_n rfl rfl rfl <|
  s_iload_n rfl rfl rfl <|
  s_cvI rfl rfl rfl rfl rfl c k
theorem b_X11_chain_36 {d : Nat} {I : Nat → Nat → Int} {S : PS} {a0 : Nat} {x1 x2 xs0 : Int} : Ev d mX11_chain (36, [some (vR (some (21, 0, a0))), some (vI x1), some (vI x2)], [vI xs0], (I, S)) (.inl (some (vI xs0)), (I, S)) :=
  s_ret rfl rfl
theorem b_X11_solve_0 {d : Nat} {r : PO × PM} {I : Nat → Nat → Int} {S : PS} {a0 : Nat} {x1 : Int} {I1 : Nat → Nat → Int} {S1 : PS} (c : Ca d mX11_checkSpot [vR (some (21, 0, a0)), vI x1] (I, S) (.inl none) (I1, S1)) (k : Ev (d + 1) mX11_solve (5, [some (vR (some (21, 0, a0))), some (vI x1)], [], (I1, S1)) r) : Ev (d + 1) mX11_solve (0, [some (vR (some (21, 0, a0))), some (vI x1)], [], (I, S)) r :=
  s_aload_n rfl rfl rfl <|
  s_iload_n rfl rfl rfl <|
  s_cvV rfl rfl rfl rfl rfl c k
theorem bt_X11_solve_0 {d e : Nat} {I : Nat → Nat → Int} {S : PS} {h1 : PM} {a0 : Nat} {x1 : Int} (c : Ca d mX11_checkSpot [vR (some (21, 0, a0)), vI x1] (I, S) (.inr e) h1) (hh : p_hnd mX11_solve 2 e [some (vR (some (21, 0, a0))), some (vI x1)] = some none) : Ev (d + 1) mX11_solve (0, [some (vR (some (21, 0, a0))), some (vI x1)], [], (I, S)) (.inr e, h1) :=
  s_aload_n rfl rfl rfl <|
  s_iload_n rfl rfl rfl <|
  s_cvT rfl rfl rfl rfl rfl c hh
theorem b_X11_solve_5 {d : Nat} {r : PO × PM} {I : Nat → Nat → Int} {S : PS} {a0 p1 p2 p3 : Nat} {x1 : Int} {I1 : Nat → Nat → Int} {S1 : PS} (hr1 : S.1 a0 9 = some (18, 0, p1)) (hr2 : S.1 a0 6 = some (19, 0, p2)) (hr3 : S.1 p2 0 = some (13, 0, p3)) (c : Ca d mX8_begin [vR (some (18, 0, p1)), vR (some (13, 0, p3))] (I, S) (.inl none) (I1, S1)) (k : Ev (d + 1) mX11_solve (19, [some (vR (some (21, 0, a0))), some (vI x1)], [], (I1, S1)) r) : Ev (d + 1) mX11_solve (5, [some (vR (some (21, 0, a0))), some (vI x1)], [], (I, S)) r :=
  s_aload_n rfl rfl rfl <|
  s_getR rfl rfl rfl hr1 <|
  s_aload_n rfl rfl rfl <|
  s_getR rfl rfl rfl hr2 <|
  s_getR rfl rfl rfl hr3 <|
  s_cvV rfl rfl rfl rfl rfl c k
theorem b_X11_solve_19 {d : Nat} {r : PO × PM} {I : Nat → Nat → Int} {S : PS} {a0 p1 p2 : Nat} {x1 z : Int} {I1 : Nat → Nat → Int} {S1 : PS} (hr1 : S.1 a0 9 = some (18, 0, p1)) (hr2 : S.1 a0 2 = some (11, 0, p2)) (c : Ca d mX8_paintAll [vR (some (18, 0, p1)), vR (some (11, 0, p2))] (I, S) (.inl (some (vI z))) (I1, S1)) (k : Ev (d + 1) mX11_solve (30, [some (vR (some (21, 0, a0))), some (vI x1)], [vI z], (I1, S1)) r) : Ev (d + 1) mX11_solve (19, [some (vR (some (21, 0, a0))), some (vI x1)], [], (I, S)) r :=
  s_aload_n rfl rfl rfl <|
  s_getR rfl rfl rfl hr1 <|
  s_aload_n rfl rfl rfl <|
  s_getR rfl rfl rfl hr2 <|
  s_cvI rfl rfl rfl rfl rfl c k
theorem b_X11_solve_30 {d : Nat} {r : PO × PM} {I : Nat → Nat → Int} {S : PS} {a0 : Nat} {x1 xs0 : Int} (kt : xs0 = 0 → Ev d mX11_solve (47, [some (vR (some (21, 0, a0))), some (vI x1)], [], (I, S)) r) (kf : xs0 ≠ 0 → Ev d mX11_solve (33, [some (vR (some (21, 0, a0))), some (vI x1)], [], (I, S)) r) : Ev d mX11_solve (30, [some (vR (some (21, 0, a0))), some (vI x1)], [vI xs0], (I, S)) r :=
  s_if_eq 47 rfl rfl kt kf
theorem b_X11_solve_33 {d : Nat} {r : PO × PM} {I : Nat → Nat → Int} {S : PS} {a0 p1 p2 : Nat} {x1 z : Int} {I1 : Nat → Nat → Int} {S1 : PS} (hr1 : S.1 a0 9 = some (18, 0, p1)) (hr2 : S.1 p1 0 = some (13, 0, p2)) (c : Ca d mX2_colourAt [vR (some (13, 0, p2)), vI x1] (I, S) (.inl (some (vI z))) (I1, S1)) (k : Ev (d + 1) mX11_solve (44, [some (vR (some (21, 0, a0))), some (vI x1)], [vI z], (I1, S1)) r) : Ev (d + 1) mX11_solve (33, [some (vR (some (21, 0, a0))), some (vI x1)], [], (I, S)) r :=
  s_aload_n rfl rfl rfl <|
  s_getR rfl rfl rfl hr1 <|
  s_getR rfl rfl rfl hr2 <|
  s_iload_n rfl rfl rfl <|
  s_cvI rfl rfl rfl rfl rfl c k
theorem b_X11_solve_44 {d : Nat} {r : PO × PM} {I : Nat → Nat → Int} {S : PS} {a0 : Nat} {x1 xs0 : Int} (k : Ev d mX11_solve (48, [some (vR (some (21, 0, a0))), some (vI x1)], [vI xs0], (I, S)) r) : Ev d mX11_solve (44, [some (vR (some (21, 0, a0))), some (vI x1)], [vI xs0], (I, S)) r :=
  s_goto 48 rfl rfl k
theorem b_X11_solve_47 {d : Nat} {r : PO × PM} {I : Nat → Nat → Int} {S : PS} {a0 : Nat} {x1 : Int} (k : Ev d mX11_solve (48, [some (vR (some (21, 0, a0))), some (vI x1)], [vI (-1)], (I, S)) r) : Ev d mX11_solve (47, [some (vR (some (21, 0, a0))), some (vI x1)], [], (I, S)) r :=
  s_iconst rfl rfl <|
  k
theorem b_X11_solve_48 {d : Nat} {I : Nat → Nat → Int} {S : PS} {a0 : Nat} {x1 xs0 : Int} : Ev d mX11_solve (48, [some (vR (some (21, 0, a0))), some (vI x1)], [vI xs0], (I, S)) (.inl (some (vI xs0)), (I, S)) :=
  s_ret rfl rfl
theorem b_X11_ways_0 {d : Nat} {r : PO × PM} {I : Nat → Nat → Int} {S : PS} {a0 p1 p2 p3 : Nat} {I1 : Nat → Nat → Int} {S1 : PS} (hr1 : S.1 a0 9 = some (18, 0, p1)) (hr2 : S.1 a0 6 = some (19, 0, p2)) (hr3 : S.1 p2 0 = some (13, 0, p3)) (c : Ca d mX8_begin [vR (some (18, 0, p1)), vR (some (13, 0, p3))] (I, S) (.inl none) (I1, S1)) (k : Ev (d + 1) mX11_ways (14, [some (vR (some (21, 0, a0)))], [], (I1, S1)) r) : Ev (d + 1) mX11_ways (0, [some (vR (some (21, 0, a0)))], [], (I, S)) r :=
  s_aload_n rfl rfl rfl <|
  s_getR rfl rfl rfl hr1 <|
  s_aload_n rfl rfl rfl <|
  s_getR rfl rfl rfl hr2 <|
  s_getR rfl rfl rfl hr3 <|
  s_cvV rfl rfl rfl rfl rfl c k
theorem b_X11_ways_14 {d : Nat} {r : PO × PM} {I : Nat → Nat → Int} {S : PS} {a0 p1 p2 : Nat} {I1 : Nat → Nat → Int} {S1 : PS} {z : Int} (hr1 : S.1 a0 9 = some (18, 0, p1)) (hr2 : S.1 a0 2 = some (11, 0, p2)) (c : Ca d mX8_allWays [vR (some (18, 0, p1)), vR (some (11, 0, p2))] (I, S) (.inl (some (vI z))) (I1, S1)) (k : Ev (d + 1) mX11_ways (25, [some (vR (some (21, 0, a0)))], [vI z], (I1, S1)) r) : Ev (d + 1) mX11_ways (14, [some (vR (some (21, 0, a0)))], [], (I, S)) r :=
  s_aload_n rfl rfl rfl <|
  s_getR rfl rfl rfl hr1 <|
  s_aload_n rfl rfl rfl <|
  s_getR rfl rfl rfl hr2 <|
  s_cvI rfl rfl rfl rfl rfl c k
theorem b_X11_ways_25 {d : Nat} {I : Nat → Nat → Int} {S : PS} {a0 : Nat} {xs0 : Int} : Ev d mX11_ways (25, [some (vR (some (21, 0, a0)))], [vI xs0], (I, S)) (.inl (some (vI xs0)), (I, S)) :=
  s_ret rfl rfl
theorem b_X11_free_0 {d : Nat} {r : PO × PM} {I : Nat → Nat → Int} {S : PS} {a0 : Nat} {x1 x2 : Int} {I1 : Nat → Nat → Int} {S1 : PS} (c : Ca d mX11_checkSpot [vR (some (21, 0, a0)), vI x1] (I, S) (.inl none) (I1, S1)) (k : Ev (d + 1) mX11_free (5, [some (vR (some (21, 0, a0))), some (vI x1), some (vI x2)], [], (I1, S1)) r) : Ev (d + 1) mX11_free (0, [some (vR (some (21, 0, a0))), some (vI x1), some (vI x2)], [], (I, S)) r :=
  s_aload_n rfl rfl rfl <|
  s_iload_n rfl rfl rfl <|
  s_cvV rfl rfl rfl rfl rfl c k
theorem bt_X11_free_0 {d e : Nat} {I : Nat → Nat → Int} {S : PS} {h1 : PM} {a0 : Nat} {x1 x2 : Int} (c : Ca d mX11_checkSpot [vR (some (21, 0, a0)), vI x1] (I, S) (.inr e) h1) (hh : p_hnd mX11_free 2 e [some (vR (some (21, 0, a0))), some (vI x1), some (vI x2)] = some none) : Ev (d + 1) mX11_free (0, [some (vR (some (21, 0, a0))), some (vI x1), some (vI x2)], [], (I, S)) (.inr e, h1) :=
  s_aload_n rfl rfl rfl <|
  s_iload_n rfl rfl rfl <|
  s_cvT rfl rfl rfl rfl rfl c hh
theorem b_X11_free_5 {d : Nat} {r : PO × PM} {I : Nat → Nat → Int} {S : PS} {a0 : Nat} {x1 x2 : Int} (kt : x2 < 0 → Ev d mX11_free (14, [some (vR (some (21, 0, a0))), some (vI x1), some (vI x2)], [], (I, S)) r) (kf : 0 ≤ x2 → Ev d mX11_free (9, [some (vR (some (21, 0, a0))), some (vI x1), some (vI x2)], [], (I, S)) r) : Ev d mX11_free (5, [some (vR (some (21, 0, a0))), some (vI x1), some (vI x2)], [], (I, S)) r :=
  s_iload_n rfl rfl rfl <|
  s_if_lt 14 rfl rfl kt kf
theorem b_X11_free_9 {d : Nat} {r : PO × PM} {I : Nat → Nat → Int} {S : PS} {a0 : Nat} {x1 x2 : Int} (kt : x2 ≤ 1 → Ev d mX11_free (22, [some (vR (some (21, 0, a0))), some (vI x1), some (vI x2)], [], (I, S)) r) (kf : 1 < x2 → Ev d mX11_free (14, [some (vR (some (21, 0, a0))), some (vI x1), some (vI x2)], [], (I, S)) r) : Ev d mX11_free (9, [some (vR (some (21, 0, a0))), some (vI x1), some (vI x2)], [], (I, S)) r :=
  s_iload_n rfl rfl rfl <|
  s_iconst rfl rfl <|
  s_icmp_le 22 rfl rfl kt kf
theorem b_X11_free_14 {d : Nat} {I : Nat → Nat → Int} {S : PS} {a0 : Nat} {x1 x2 : Int} : Ev d mX11_free (14, [some (vR (some (21, 0, a0))), some (vI x1), some (vI x2)], [], (I, S)) (.inr 1, (I, exS S)) :=
  s_throw rfl rfl rfl rfl rfl rfl rfl
theorem b_X11_free_22 {d : Nat} {r : PO × PM} {I : Nat → Nat → Int} {S : PS} {a0 p1 p2 p3 : Nat} {x1 x2 : Int} {I1 : Nat → Nat → Int} {S1 : PS} (hr1 : S.1 a0 9 = some (18, 0, p1)) (hr2 : S.1 a0 6 = some (19, 0, p2)) (hr3 : S.1 p2 0 = some (13, 0, p3)) (c : Ca d mX8_begin [vR (some (18, 0, p1)), vR (some (13, 0, p3))] (I, S) (.inl none) (I1, S1)) (k : Ev (d + 1) mX11_free (36, [some (vR (some (21, 0, a0))), some (vI x1), some (vI x2)], [], (I1, S1)) r) : Ev (d + 1) mX11_free (22, [some (vR (some (21, 0, a0))), some (vI x1), some (vI x2)], [], (I, S)) r :=
  s_aload_n rfl rfl rfl <|
  s_getR rfl rfl rfl hr1 <|
  s_aload_n rfl rfl rfl <|
  s_getR rfl rfl rfl hr2 <|
  s_getR rfl rfl rfl hr3 <|
  s_cvV rfl rfl rfl rfl rfl c k
theorem b_X11_free_36 {d : Nat} {r : PO × PM} {I : Nat → Nat → Int} {S : PS} {a0 p1 p2 : Nat} {x1 x2 : Int} {I1 : Nat → Nat → Int} {S1 : PS} (hr1 : S.1 a0 9 = some (18, 0, p1)) (hr2 : S.1 a0 2 = some (11, 0, p2)) (c : Ca d mX8_seekFree [vR (some (18, 0, p1)), vR (some (11, 0, p2)), vI x1] (I, S) (.inl none) (I1, S1)) (k : Ev (d + 1) mX11_free (48, [some (vR (some (21, 0, a0))), some (vI x1), some (vI x2)], [], (I1, S1)) r) : Ev (d + 1) mX11_free (36, [some (vR (some (21, 0, a0))), some (vI x1), some (vI x2)], [], (I, S)) r :=
  s_aload_n rfl rfl rfl <|
  s_getR rfl rfl rfl hr1 <|
  s_aload_n rfl rfl rfl <|
  s_getR rfl rfl rfl hr2 <|
  s_iload_n rfl rfl rfl <|
  s_cvV rfl rfl rfl rfl rfl c k
theorem b_X11_free_48 {d : Nat} {r : PO × PM} {I : Nat → Nat → Int} {S : PS} {a0 : Nat} {x1 x2 : Int} (kt : x2 ≠ 0 → Ev d mX11_free (62, [some (vR (some (21, 0, a0))), some (vI x1), some (vI x2)], [], (I, S)) r) (kf : x2 = 0 → Ev d mX11_free (52, [some (vR (some (21, 0, a0))), some (vI x1), some (vI x2)], [], (I, S)) r) : Ev d mX11_free (48, [some (vR (some (21, 0, a0))), some (vI x1), some (vI x2)], [], (I, S)) r :=
  s_iload_n rfl rfl rfl <|
  s_if_ne 62 rfl rfl kt kf
theorem b_X11_free_52 {d : Nat} {r : PO × PM} {I : Nat → Nat → Int} {S : PS} {a0 p1 : Nat} {x1 x2 : Int} (hr1 : S.1 a0 9 = some (18, 0, p1)) (k : Ev d mX11_free (69, [some (vR (some (21, 0, a0))), some (vI x1), some (vI x2)], [vI (I p1 1)], (I, S)) r) : Ev d mX11_free (52, [some (vR (some (21, 0, a0))), some (vI x1), some (vI x2)], [], (I, S)) r :=
  s_aload_n rfl rfl rfl <|
  s_getR rfl rfl rfl hr1 <|
  s_getI rfl rfl rfl <|
  s_goto 69 rfl rfl k
theorem b_X11_free_62 {d : Nat} {r : PO × PM} {I : Nat → Nat → Int} {S : PS} {a0 p1 : Nat} {x1 x2 : Int} (hr1 : S.1 a0 9 = some (18, 0, p1)) (k : Ev d mX11_free (69, [some (vR (some (21, 0, a0))), some (vI x1), some (vI x2)], [vI (I p1 3)], (I, S)) r) : Ev d mX11_free (62, [some (vR (some (21, 0, a0))), some (vI x1), some (vI x2)], [], (I, S)) r :=
  s_aload_n rfl rfl rfl <|
  s_getR rfl rfl rfl hr1 <|
  s_getI rfl rfl rfl <|
  k
theorem b_X11_free_69 {d : Nat} {I : Nat → Nat → Int} {S : PS} {a0 : Nat} {x1 x2 xs0 : Int} : Ev d mX11_free (69, [some (vR (some (21, 0, a0))), some (vI x1), some (vI x2)], [vI xs0], (I, S)) (.inl (some (vI xs0)), (I, S)) :=
  s_ret rfl rfl
theorem b_X11_play_0 {d : Nat} {r : PO × PM} {I : Nat → Nat → Int} {S : PS} {a0 : Nat} {x1 : Int} (kt : x1 < 0 → Ev d mX11_play (9, [some (vR (some (21, 0, a0))), some (vI x1)], [], (I, S)) r) (kf : 0 ≤ x1 → Ev d mX11_play (4, [some (vR (some (21, 0, a0))), some (vI x1)], [], (I, S)) r) : Ev d mX11_play (0, [some (vR (some (21, 0, a0))), some (vI x1)], [], (I, S)) r :=
  s_iload_n rfl rfl rfl <|
  s_if_lt 9 rfl rfl kt kf
theorem b_X11_play_4 {d : Nat} {r : PO × PM} {I : Nat → Nat → Int} {S : PS} {a0 : Nat} {x1 : Int} (kt : x1 ≤ 1 → Ev d mX11_play (17, [some (vR (some (21, 0, a0))), some (vI x1)], [], (I, S)) r) (kf : 1 < x1 → Ev d mX11_play (9, [some (vR (some (21, 0, a0))), some (vI x1)], [], (I, S)) r) : Ev d mX11_play (4, [some (vR (some (21, 0, a0))), some (vI x1)], [], (I, S)) r :=
  s_iload_n rfl rfl rfl <|
  s_iconst rfl rfl <|
  s_icmp_le 17 rfl rfl kt kf
theorem b_X11_play_9 {d : Nat} {I : Nat → Nat → Int} {S : PS} {a0 : Nat} {x1 : Int} : Ev d mX11_play (9, [some (vR (some (21, 0, a0))), some (vI x1)], [], (I, S)) (.inr 1, (I, exS S)) :=
  s_throw rfl rfl rfl rfl rfl rfl rfl
theorem b_X11_play_17 {d : Nat} {r : PO × PM} {I : Nat → Nat → Int} {S : PS} {a0 p1 p2 p3 : Nat} {x1 : Int} {I1 : Nat → Nat → Int} {S1 : PS} (hr1 : S.1 a0 9 = some (18, 0, p1)) (hr2 : S.1 a0 6 = some (19, 0, p2)) (hr3 : S.1 p2 0 = some (13, 0, p3)) (c : Ca d mX8_begin [vR (some (18, 0, p1)), vR (some (13, 0, p3))] (I, S) (.inl none) (I1, S1)) (k : Ev (d + 1) mX11_play (31, [some (vR (some (21, 0, a0))), some (vI x1)], [], (I1, S1)) r) : Ev (d + 1) mX11_play (17, [some (vR (some (21, 0, a0))), some (vI x1)], [], (I, S)) r :=
  s_aload_n rfl rfl rfl <|
  s_getR rfl rfl rfl hr1 <|
  s_aload_n rfl rfl rfl <|
  s_getR rfl rfl rfl hr2 <|
  s_getR rfl rfl rfl hr3 <|
  s_cvV rfl rfl rfl rfl rfl c k
theorem b_X11_play_31 {d : Nat} {r : PO × PM} {I : Nat → Nat → Int} {S : PS} {a0 p1 p2 : Nat} {x1 : Int} {I1 : Nat → Nat → Int} {S1 : PS} (hr1 : S.1 a0 9 = some (18, 0, p1)) (hr2 : S.1 a0 2 = some (11, 0, p2)) (c : Ca d mX8_playGame [vR (some (18, 0, p1)), vR (some (11, 0, p2))] (I, S) (.inl none) (I1, S1)) (k : Ev (d + 1) mX11_play (42, [some (vR (some (21, 0, a0))), some (vI x1)], [], (I1, S1)) r) : Ev (d + 1) mX11_play (31, [some (vR (some (21, 0, a0))), some (vI x1)], [], (I, S)) r :=
  s_aload_n rfl rfl rfl <|
  s_getR rfl rfl rfl hr1 <|
  s_aload_n rfl rfl rfl <|
  s_getR rfl rfl rfl hr2 <|
  s_cvV rfl rfl rfl rfl rfl c k
theorem b_X11_play_42 {d : Nat} {r : PO × PM} {I : Nat → Nat → Int} {S : PS} {a0 : Nat} {x1 : Int} (kt : x1 ≠ 0 → Ev d mX11_play (56, [some (vR (some (21, 0, a0))), some (vI x1)], [], (I, S)) r) (kf : x1 = 0 → Ev d mX11_play (46, [some (vR (some (21, 0, a0))), some (vI x1)], [], (I, S)) r) : Ev d mX11_play (42, [some (vR (some (21, 0, a0))), some (vI x1)], [], (I, S)) r :=
  s_iload_n rfl rfl rfl <|
  s_if_ne 56 rfl rfl kt kf
theorem b_X11_play_46 {d : Nat} {r : PO × PM} {I : Nat → Nat → Int} {S : PS} {a0 p1 : Nat} {x1 : Int} (hr1 : S.1 a0 9 = some (18, 0, p1)) (k : Ev d mX11_play (63, [some (vR (some (21, 0, a0))), some (vI x1)], [vI (I p1 2)], (I, S)) r) : Ev d mX11_play (46, [some (vR (some (21, 0, a0))), some (vI x1)], [], (I, S)) r :=
  s_aload_n rfl rfl rfl <|
  s_getR rfl rfl rfl hr1 <|
  s_getI rfl rfl rfl <|
  s_goto 63 rfl rfl k
theorem b_X11_play_56 {d : Nat} {r : PO × PM} {I : Nat → Nat → Int} {S : PS} {a0 p1 : Nat} {x1 : Int} (hr1 : S.1 a0 9 = some (18, 0, p1)) (k : Ev d mX11_play (63, [some (vR (some (21, 0, a0))), some (vI x1)], [vI (I p1 3)], (I, S)) r) : Ev d mX11_play (56, [some (vR (some (21, 0, a0))), some (vI x1)], [], (I, S)) r :=
  s_aload_n rfl rfl rfl <|
  s_getR rfl rfl rfl hr1 <|
  s_getI rfl rfl rfl <|
  k
theorem b_X11_play_63 {d : Nat} {I : Nat → Nat → Int} {S : PS} {a0 : Nat} {x1 xs0 : Int} : Ev d mX11_play (63, [some (vR (some (21, 0, a0))), some (vI x1)], [vI xs0], (I, S)) (.inl (some (vI xs0)), (I, S)) :=
  s_ret rfl rfl
theorem b_X11_plan_0 {d : Nat} {r : PO × PM} {I : Nat → Nat → Int} {S : PS} {a0 : Nat} {x1 : Int} {I1 : Nat → Nat → Int} {S1 : PS} (c : Ca d mX11_takeTape [vR (some (21, 0, a0)), vI x1] (I, S) (.inl none) (I1, S1)) (k : Ev (d + 1) mX11_plan (5, [some (vR (some (21, 0, a0))), some (vI x1)], [], (I1, S1)) r) : Ev (d + 1) mX11_plan (0, [some (vR (some (21, 0, a0))), some (vI x1)], [], (I, S)) r :=
  s_aload_n rfl rfl rfl <|
  s_iload_n rfl rfl rfl <|
  s_cvV rfl rfl rfl rfl rfl c k
theorem bt_X11_plan_0 {d e : Nat} {I : Nat → Nat → Int} {S : PS} {h1 : PM} {a0 : Nat} {x1 : Int} (c : Ca d mX11_takeTape [vR (some (21, 0, a0)), vI x1] (I, S) (.inr e) h1) (hh : p_hnd mX11_plan 2 e [some (vR (some (21, 0, a0))), some (vI x1)] = some none) : Ev (d + 1) mX11_plan (0, [some (vR (some (21, 0, a0))), some (vI x1)], [], (I, S)) (.inr e, h1) :=
  s_aload_n rfl rfl rfl <|
  s_iload_n rfl rfl rfl <|
  s_cvT rfl rfl rfl rfl rfl c hh
theorem b_X11_plan_5 {d : Nat} {r : PO × PM} {I : Nat → Nat → Int} {S : PS} {a0 p1 p2 p3 p4 p5 : Nat} {x1 : Int} {I1 : Nat → Nat → Int} {S1 : PS} (hr1 : S.1 a0 10 = some (15, 0, p1)) (hr2 : S.1 a0 0 = some (20, 0, p2)) (hr3 : S.1 a0 2 = some (11, 0, p3)) (hr4 : S.1 a0 6 = some (19, 0, p4)) (hr5 : S.1 p4 0 = some (13, 0, p5)) (c : Ca d mX4_run [vR (some (15, 0, p1)), vR (some (20, 0, p2)), vR (some (11, 0, p3)), vR (some (13, 0, p5))] (I, S) (.inl none) (I1, S1)) (k : Ev (d + 1) mX11_plan (27, [some (vR (some (21, 0, a0))), some (vI x1)], [], (I1, S1)) r) : Ev (d + 1) mX11_plan (5, [some (vR (some (21, 0, a0))), some (vI x1)], [], (I, S)) r :=
  s_aload_n rfl rfl rfl <|
  s_getR rfl rfl rfl hr1 <|
  s_aload_n rfl rfl rfl <|
  s_getR rfl rfl rfl hr2 <|
  s_aload_n rfl rfl rfl <|
  s_getR rfl rfl rfl hr3 <|
  s_aload_n rfl rfl rfl <|
  s_getR rfl rfl rfl hr4 <|
  s_getR rfl rfl rfl hr5 <|
  s_cvV rfl rfl rfl rfl rfl c k
theorem b_X11_plan_27 {d : Nat} {I : Nat → Nat → Int} {S : PS} {a0 p1 : Nat} {x1 : Int} (hr1 : S.1 a0 10 = some (15, 0, p1)) : Ev d mX11_plan (27, [some (vR (some (21, 0, a0))), some (vI x1)], [], (I, S)) (.inl (some (vI (I p1 7))), (I, S)) :=
  s_aload_n rfl rfl rfl <|
  s_getR rfl rfl rfl hr1 <|
  s_getI rfl rfl rfl <|
  s_ret rfl rfl
theorem b_X11_planned_0 {d : Nat} {r : PO × PM} {I : Nat → Nat → Int} {S : PS} {a0 : Nat} {x1 : Int} (kt : x1 < 0 → Ev d mX11_planned (9, [some (vR (some (21, 0, a0))), some (vI x1)], [], (I, S)) r) (kf : 0 ≤ x1 → Ev d mX11_planned (4, [some (vR (some (21, 0, a0))), some (vI x1)], [], (I, S)) r) : Ev d mX11_planned (0, [some (vR (some (21, 0, a0))), some (vI x1)], [], (I, S)) r :=
  s_iload_n rfl rfl rfl <|
  s_if_lt 9 rfl rfl kt kf
theorem b_X11_planned_4 {d : Nat} {r : PO × PM} {I : Nat → Nat → Int} {S : PS} {a0 : Nat} {x1 : Int} (kt : x1 ≤ 3 → Ev d mX11_planned (17, [some (vR (some (21, 0, a0))), some (vI x1)], [], (I, S)) r) (kf : 3 < x1 → Ev d mX11_planned (9, [some (vR (some (21, 0, a0))), some (vI x1)], [], (I, S)) r) : Ev d mX11_planned (4, [some (vR (some (21, 0, a0))), some (vI x1)], [], (I, S)) r :=
  s_iload_n rfl rfl rfl <|
  s_iconst rfl rfl <|
  s_icmp_le 17 rfl rfl kt kf
theorem b_X11_planned_9 {d : Nat} {I : Nat → Nat → Int} {S : PS} {a0 : Nat} {x1 : Int} : Ev d mX11_planned (9, [some (vR (some (21, 0, a0))), some (vI x1)], [], (I, S)) (.inr 1, (I, exS S)) :=
  s_throw rfl rfl rfl rfl rfl rfl rfl
theorem b_X11_planned_17 {d : Nat} {r : PO × PM} {I : Nat → Nat → Int} {S : PS} {a0 p1 : Nat} {x1 z : Int} {I1 : Nat → Nat → Int} {S1 : PS} (hr1 : S.1 a0 10 = some (15, 0, p1)) (c : Ca d mX4_toldOf [vR (some (15, 0, p1)), vI x1] (I, S) (.inl (some (vI z))) (I1, S1)) (k : Ev (d + 1) mX11_planned (25, [some (vR (some (21, 0, a0))), some (vI x1)], [vI z], (I1, S1)) r) : Ev (d + 1) mX11_planned (17, [some (vR (some (21, 0, a0))), some (vI x1)], [], (I, S)) r :=
  s_aload_n rfl rfl rfl <|
  s_getR rfl rfl rfl hr1 <|
  s_iload_n rfl rfl rfl <|
  s_cvI rfl rfl rfl rfl rfl c k
theorem b_X11_planned_25 {d : Nat} {I : Nat → Nat → Int} {S : PS} {a0 : Nat} {x1 xs0 : Int} : Ev d mX11_planned (25, [some (vR (some (21, 0, a0))), some (vI x1)], [vI xs0], (I, S)) (.inl (some (vI xs0)), (I, S)) :=
  s_ret rfl rfl
theorem b_X11_note_0 {d : Nat} {r : PO × PM} {I : Nat → Nat → Int} {S : PS} {a0 : Nat} {x1 x2 : Int} {I1 : Nat → Nat → Int} {S1 : PS} (c : Ca d mX11_checkSpot [vR (some (21, 0, a0)), vI x1] (I, S) (.inl none) (I1, S1)) (k : Ev (d + 1) mX11_note (5, [some (vR (some (21, 0, a0))), some (vI x1), some (vI x2)], [], (I1, S1)) r) : Ev (d + 1) mX11_note (0, [some (vR (some (21, 0, a0))), some (vI x1), some (vI x2)], [], (I, S)) r :=
  s_aload_n rfl rfl rfl <|
  s_iload_n rfl rfl rfl <|
  s_cvV rfl rfl rfl rfl rfl c k
theorem bt_X11_note_0 {d e : Nat} {I : Nat → Nat → Int} {S : PS} {h1 : PM} {a0 : Nat} {x1 x2 : Int} (c : Ca d mX11_checkSpot [vR (some (21, 0, a0)), vI x1] (I, S) (.inr e) h1) (hh : p_hnd mX11_note 2 e [some (vR (some (21, 0, a0))), some (vI x1), some (vI x2)] = some none) : Ev (d + 1) mX11_note (0, [some (vR (some (21, 0, a0))), some (vI x1), some (vI x2)], [], (I, S)) (.inr e, h1) :=
  s_aload_n rfl rfl rfl <|
  s_iload_n rfl rfl rfl <|
  s_cvT rfl rfl rfl rfl rfl c hh
theorem b_X11_note_5 {d : Nat} {r : PO × PM} {I : Nat → Nat → Int} {S : PS} {a0 p1 : Nat} {x1 x2 : Int} (hr1 : S.1 a0 6 = some (19, 0, p1)) (kt : 8 ≤ I p1 6 → Ev d mX11_note (31, [some (vR (some (21, 0, a0))), some (vI x1), some (vI x2)], [], (I, S)) r) (kf : I p1 6 < 8 → Ev d mX11_note (17, [some (vR (some (21, 0, a0))), some (vI x1), some (vI x2)], [], (I, S)) r) : Ev d mX11_note (5, [some (vR (some (21, 0, a0))), some (vI x1), some (vI x2)], [], (I, S)) r :=
  s_aload_n rfl rfl rfl <|
  s_getR rfl rfl rfl hr1 <|
  s_getI rfl rfl rfl <|
  s_bipush rfl rfl <|
  s_icmp_ge 31 rfl rfl kt kf
theorem b_X11_note_17 {d : Nat} {r : PO × PM} {I : Nat → Nat → Int} {S : PS} {a0 : Nat} {x1 x2 : Int} (kt : x2 < (-999) → Ev d mX11_note (31, [some (vR (some (21, 0, a0))), some (vI x1), some (vI x2)], [], (I, S)) r) (kf : (-999) ≤ x2 → Ev d mX11_note (24, [some (vR (some (21, 0, a0))), some (vI x1), some (vI x2)], [], (I, S)) r) : Ev d mX11_note (17, [some (vR (some (21, 0, a0))), some (vI x1), some (vI x2)], [], (I, S)) r :=
  s_iload_n rfl rfl rfl <|
  s_sipush rfl rfl <|
  s_icmp_lt 31 rfl rfl kt kf
theorem b_X11_note_24 {d : Nat} {r : PO × PM} {I : Nat → Nat → Int} {S : PS} {a0 : Nat} {x1 x2 : Int} (kt : x2 ≤ 999 → Ev d mX11_note (43, [some (vR (some (21, 0, a0))), some (vI x1), some (vI x2)], [], (I, S)) r) (kf : 999 < x2 → Ev d mX11_note (31, [some (vR (some (21, 0, a0))), some (vI x1), some (vI x2)], [], (I, S)) r) : Ev d mX11_note (24, [some (vR (some (21, 0, a0))), some (vI x1), some (vI x2)], [], (I, S)) r :=
  s_iload_n rfl rfl rfl <|
  s_sipush rfl rfl <|
  s_icmp_le 43 rfl rfl kt kf
theorem b_X11_note_31 {d : Nat} {I : Nat → Nat → Int} {S : PS} {a0 p1 q1 : Nat} {x1 x2 : Int} (hr1 : S.1 a0 14 = some (0, q1, p1)) (hi2 : 2 < q1) (ho3 : -2147483648 ≤ I p1 2 + 1 ∧ I p1 2 + 1 ≤ 2147483647) (hi4 : 2 < q1) : Ev d mX11_note (31, [some (vR (some (21, 0, a0))), some (vI x1), some (vI x2)], [], (I, S)) (.inl (some (vI (-1))), ((up2 I p1 2 (I p1 2 + 1)), S)) :=
  s_aload_n rfl rfl rfl <|
  s_getR rfl rfl rfl hr1 <|
  s_iconst rfl rfl <|
  s_dup2 rfl rfl <|
  s_iald rfl rfl (p_lit (k := 2) hi2) <|
  s_iconst rfl rfl <|
  s_iaddp rfl ho3 <|
  s_iast rfl (p_lit (k := 2) hi4) <|
  s_iconst rfl rfl <|
  s_ret rfl rfl
theorem b_X11_note_43 {d : Nat} {r : PO × PM} {I : Nat → Nat → Int} {S : PS} {a0 p1 : Nat} {x1 x2 : Int} {I1 : Nat → Nat → Int} {S1 : PS} (hr1 : S.1 a0 6 = some (19, 0, p1)) (c : Ca d mX9_keepNote [vR (some (19, 0, p1)), vI x1, vI x2] (I, S) (.inl none) (I1, S1)) (k : Ev (d + 1) mX11_note (52, [some (vR (some (21, 0, a0))), some (vI x1), some (vI x2)], [], (I1, S1)) r) : Ev (d + 1) mX11_note (43, [some (vR (some (21, 0, a0))), some (vI x1), some (vI x2)], [], (I, S)) r :=
  s_aload_n rfl rfl rfl <|
  s_getR rfl rfl rfl hr1 <|
  s_iload_n rfl rfl rfl <|
  s_iload_n rfl rfl rfl <|
  s_cvV rfl rfl rfl rfl rfl c k
theorem b_X11_note_52 {d : Nat} {I : Nat → Nat → Int} {S : PS} {a0 p1 : Nat} {x1 x2 : Int} (hr1 : S.1 a0 6 = some (19, 0, p1)) : Ev d mX11_note (52, [some (vR (some (21, 0, a0))), some (vI x1), some (vI x2)], [], (I, S)) (.inl (some (vI (I p1 6))), (I, S)) :=
  s_aload_n rfl rfl rfl <|
  s_getR rfl rfl rfl hr1 <|
  s_getI rfl rfl rfl <|
  s_ret rfl rfl
theorem b_X11_forget_0 {d : Nat} {I : Nat → Nat → Int} {S : PS} {a0 p1 : Nat} (hr1 : S.1 a0 6 = some (19, 0, p1)) : Ev d mX11_forget (0, [some (vR (some (21, 0, a0)))], [], (I, S)) (.inl none, ((up2 I p1 6 0), S)) :=
  s_aload_n rfl rfl rfl <|
  s_getR rfl rfl rfl hr1 <|
  s_iconst rfl rfl <|
  s_putI rfl rfl rfl <|
  s_vret rfl rfl
theorem b_X11_meant_0 {d : Nat} {r : PO × PM} {I : Nat → Nat → Int} {S : PS} {a0 : Nat} {x1 : Int} (kt : x1 < 0 → Ev d mX11_meant (9, [some (vR (some (21, 0, a0))), some (vI x1), none, none, none, none, none], [], (I, S)) r) (kf : 0 ≤ x1 → Ev d mX11_meant (4, [some (vR (some (21, 0, a0))), some (vI x1), none, none, none, none, none], [], (I, S)) r) : Ev d mX11_meant (0, [some (vR (some (21, 0, a0))), some (vI x1), none, none, none, none, none], [], (I, S)) r :=
  s_iload_n rfl rfl rfl <|
  s_if_lt 9 rfl rfl kt kf
theorem b_X11_meant_4 {d : Nat} {r : PO × PM} {I : Nat → Nat → Int} {S : PS} {a0 : Nat} {x1 : Int} (kt : x1 ≤ 2 → Ev d mX11_meant (17, [some (vR (some (21, 0, a0))), some (vI x1), none, none, none, none, none], [], (I, S)) r) (kf : 2 < x1 → Ev d mX11_meant (9, [some (vR (some (21, 0, a0))), some (vI x1), none, none, none, none, none], [], (I, S)) r) : Ev d mX11_meant (4, [some (vR (some (21, 0, a0))), some (vI x1), none, none, none, none, none], [], (I, S)) r :=
  s_iload_n rfl rfl rfl <|
  s_iconst rfl rfl <|
  s_icmp_le 17 rfl rfl kt kf
theorem b_X11_meant_9 {d : Nat} {I : Nat → Nat → Int} {S : PS} {a0 : Nat} {x1 : Int} : Ev d mX11_meant (9, [some (vR (some (21, 0, a0))), some (vI x1), none, none, none, none, none], [], (I, S)) (.inr 1, (I, exS S)) :=
  s_throw rfl rfl rfl rfl rfl rfl rfl
theorem b_X11_meant_17 {d : Nat} {r : PO × PM} {I : Nat → Nat → Int} {S : PS} {a0 : Nat} {x1 : Int} {I1 : Nat → Nat → Int} {S1 : PS} (c : Ca d mX11_findLacks [vR (some (21, 0, a0))] (I, S) (.inl none) (I1, S1)) (k : Ev (d + 1) mX11_meant (21, [some (vR (some (21, 0, a0))), some (vI x1), none, none, none, none, none], [], (I1, S1)) r) : Ev (d + 1) mX11_meant (17, [some (vR (some (21, 0, a0))), some (vI x1), none, none, none, none, none], [], (I, S)) r :=
  s_aload_n rfl rfl rfl <|
  s_cvV rfl rfl rfl rfl rfl c k
theorem b_X11_meant_21 {d : Nat} {r : PO × PM} {I : Nat → Nat → Int} {S : PS} {a0 : Nat} {x1 : Int} (kt : x1 ≠ 2 → Ev d mX11_meant (40, [some (vR (some (21, 0, a0))), some (vI x1), none, none, none, none, none], [], (I, S)) r) (kf : x1 = 2 → Ev d mX11_meant (26, [some (vR (some (21, 0, a0))), some (vI x1), none, none, none, none, none], [], (I, S)) r) : Ev d mX11_meant (21, [some (vR (some (21, 0, a0))), some (vI x1), none, none, none, none, none], [], (I, S)) r :=
  s_iload_n rfl rfl rfl <|
  s_iconst rfl rfl <|
  s_icmp_ne 40 rfl rfl kt kf
theorem b_X11_meant_26 {d : Nat} {r : PO × PM} {I : Nat → Nat → Int} {S : PS} {a0 : Nat} {x1 z : Int} {I1 : Nat → Nat → Int} {S1 : PS} (c : Ca d mX11_mendsLacks [vR (some (21, 0, a0)), vI 0] (I, S) (.inl (some (vI z))) (I1, S1)) (k : Ev (d + 1) mX11_meant (31, [some (vR (some (21, 0, a0))), some (vI x1), none, none, none, none, none], [vI z], (I1, S1)) r) : Ev (d + 1) mX11_meant (26, [some (vR (some (21, 0, a0))), some (vI x1), none, none, none, none, none], [], (I, S)) r :=
  s_aload_n rfl rfl rfl <|
  s_iconst rfl rfl <|
  s_cvI rfl rfl rfl rfl rfl c k
theorem b_X11_meant_31 {d : Nat} {r : PO × PM} {I : Nat → Nat → Int} {S : PS} {a0 : Nat} {x1 xs0 : Int} (kt : xs0 = 0 → Ev d mX11_meant (38, [some (vR (some (21, 0, a0))), some (vI x1), none, none, none, none, none], [], (I, S)) r) (kf : xs0 ≠ 0 → Ev d mX11_meant (34, [some (vR (some (21, 0, a0))), some (vI x1), none, none, none, none, none], [], (I, S)) r) : Ev d mX11_meant (31, [some (vR (some (21, 0, a0))), some (vI x1), none, none, none, none, none], [vI xs0], (I, S)) r :=
  s_if_eq 38 rfl rfl kt kf
theorem b_X11_meant_34 {d : Nat} {r : PO × PM} {I : Nat → Nat → Int} {S : PS} {a0 : Nat} {x1 : Int} (k : Ev d mX11_meant (39, [some (vR (some (21, 0, a0))), some (vI x1), none, none, none, none, none], [vI 1], (I, S)) r) : Ev d mX11_meant (34, [some (vR (some (21, 0, a0))), some (vI x1), none, none, none, none, none], [], (I, S)) r :=
  s_iconst rfl rfl <|
  s_goto 39 rfl rfl k
theorem b_X11_meant_38 {d : Nat} {r : PO × PM} {I : Nat → Nat → Int} {S : PS} {a0 : Nat} {x1 : Int} (k : Ev d mX11_meant (39, [some (vR (some (21, 0, a0))), some (vI x1), none, none, none, none, none], [vI 0], (I, S)) r) : Ev d mX11_meant (38, [some (vR (some (21, 0, a0))), some (vI x1), none, none, none, none, none], [], (I, S)) r :=
  s_iconst rfl rfl <|
  k
theorem b_X11_meant_39 {d : Nat} {I : Nat → Nat → Int} {S : PS} {a0 : Nat} {x1 xs0 : Int} : Ev d mX11_meant (39, [some (vR (some (21, 0, a0))), some (vI x1), none, none, none, none, none], [vI xs0], (I, S)) (.inl (some (vI xs0)), (I, S)) :=
  s_ret rfl rfl
theorem b_X11_meant_40 {d : Nat} {r : PO × PM} {I : Nat → Nat → Int} {S : PS} {a0 : Nat} {x1 : Int} (k : Ev d mX11_meant (47, [some (vR (some (21, 0, a0))), some (vI x1), some (vI 0), some (vI (-1)), some (vI 0), none, none], [], (I, S)) r) : Ev d mX11_meant (40, [some (vR (some (21, 0, a0))), some (vI x1), none, none, none, none, none], [], (I, S)) r :=
  s_iconst rfl rfl <|
  s_istore_n [some (vR (some (21, 0, a0))), some (vI x1), some (vI 0), none, none, none, none] rfl rfl <|
  s_iconst rfl rfl <|
  s_istore_n [some (vR (some (21, 0, a0))), some (vI x1), some (vI 0), some (vI (-1)), none, none, none] rfl rfl <|
  s_iconst rfl rfl <|
  s_istore [some (vR (some (21, 0, a0))), some (vI x1), some (vI 0), some (vI (-1)), some (vI 0), none, none] rfl rfl <|
  k
theorem b_X11_meant_47 {d : Nat} {r : PO × PM} {I : Nat → Nat → Int} {S : PS} {a0 p1 p2 : Nat} {x1 x2 x3 x4 : Int} (hr1 : S.1 a0 2 = some (11, 0, p1)) (hr2 : S.1 p1 2 = some (17, 0, p2)) (kt : I p2 0 ≤ x4 → Ev d mX11_meant (139, [some (vR (some (21, 0, a0))), some (vI x1), some (vI x2), some (vI x3), some (vI x4), none, none], [], (I, S)) r) (kf : x4 < I p2 0 → Ev d mX11_meant (62, [some (vR (some (21, 0, a0))), some (vI x1), some (vI x2), some (vI x3), some (vI x4), none, none], [], (I, S)) r) : Ev d mX11_meant (47, [some (vR (some (21, 0, a0))), some (vI x1), some (vI x2), some (vI x3), some (vI x4), none, none], [], (I, S)) r :=
  s_iload rfl rfl rfl <|
  s_aload_n rfl rfl rfl <|
  s_getR rfl rfl rfl hr1 <|
  s_getR rfl rfl rfl hr2 <|
  s_getI rfl rfl rfl <|
  s_icmp_ge 139 rfl rfl kt kf
theorem b_X11_meant_62 {d : Nat} {r : PO × PM} {I : Nat → Nat → Int} {S : PS} {a0 : Nat} {x1 x2 x3 x4 : Int} {I1 : Nat → Nat → Int} {S1 : PS} (c : Ca d mX11_findNets [vR (some (21, 0, a0)), vI x4] (I, S) (.inl none) (I1, S1)) (k : Ev (d + 1) mX11_meant (68, [some (vR (some (21, 0, a0))), some (vI x1), some (vI x2), some (vI x3), some (vI x4), none, none], [], (I1, S1)) r) : Ev (d + 1) mX11_meant (62, [some (vR (some (21, 0, a0))), some (vI x1), some (vI x2), some (vI x3), some (vI x4), none, none], [], (I, S)) r :=
  s_aload_n rfl rfl rfl <|
  s_iload rfl rfl rfl <|
  s_cvV rfl rfl rfl rfl rfl c k
theorem b_X11_meant_68 {d : Nat} {r : PO × PM} {I : Nat → Nat → Int} {S : PS} {a0 : Nat} {x1 x2 x3 x4 : Int} (k : Ev d mX11_meant (71, [some (vR (some (21, 0, a0))), some (vI x1), some (vI x2), some (vI x3), some (vI x4), some (vI 1), none], [], (I, S)) r) : Ev d mX11_meant (68, [some (vR (some (21, 0, a0))), some (vI x1), some (vI x2), some (vI x3), some (vI x4), none, none], [], (I, S)) r :=
  s_iconst rfl rfl <|
  s_istore [some (vR (some (21, 0, a0))), some (vI x1), some (vI x2), some (vI x3), some (vI x4), some (vI 1), none] rfl rfl <|
  k
theorem b_X11_meant_71 {d : Nat} {r : PO × PM} {I : Nat → Nat → Int} {S : PS} {a0 : Nat} {x1 x2 x3 x4 x5 : Int} (kt : 99 < x5 → Ev d mX11_meant (133, [some (vR (some (21, 0, a0))), some (vI x1), some (vI x2), some (vI x3), some (vI x4), some (vI x5), none], [], (I, S)) r) (kf : x5 ≤ 99 → Ev d mX11_meant (78, [some (vR (some (21, 0, a0))), some (vI x1), some (vI x2), some (vI x3), some (vI x4), some (vI x5), none], [], (I, S)) r) : Ev d mX11_meant (71, [some (vR (some (21, 0, a0))), some (vI x1), some (vI x2), some (vI x3), some (vI x4), some (vI x5), none], [], (I, S)) r :=
  s_iload rfl rfl rfl <|
  s_bipush rfl rfl <|
  s_icmp_gt 133 rfl rfl kt kf
theorem b_X11_meant_78 {d : Nat} {r : PO × PM} {I : Nat → Nat → Int} {S : PS} {a0 p1 p2 q2 : Nat} {x1 x2 x3 x4 x5 : Int} (hr1 : S.1 a0 6 = some (19, 0, p1)) (hr2 : S.1 p1 1 = some (0, q2, p2)) (hi3 : 0 ≤ x4 ∧ x4 < (q2 : Nat)) (ho4 : -2147483648 ≤ x5 - (I p2 x4.toNat) ∧ x5 - (I p2 x4.toNat) ≤ 2147483647) (kt : x5 - (I p2 x4.toNat) = 0 → Ev d mX11_meant (127, [some (vR (some (21, 0, a0))), some (vI x1), some (vI x2), some (vI x3), some (vI x4), some (vI x5), some (vI (x5 - (I p2 x4.toNat)))], [], (I, S)) r) (kf : x5 - (I p2 x4.toNat) ≠ 0 → Ev d mX11_meant (98, [some (vR (some (21, 0, a0))), some (vI x1), some (vI x2), some (vI x3), some (vI x4), some (vI x5), some (vI (x5 - (I p2 x4.toNat)))], [], (I, S)) r) : Ev d mX11_meant (78, [some (vR (some (21, 0, a0))), some (vI x1), some (vI x2), some (vI x3), some (vI x4), some (vI x5), none], [], (I, S)) r :=
  s_iload rfl rfl rfl <|
  s_aload_n rfl rfl rfl <|
  s_getR rfl rfl rfl hr1 <|
  s_getR rfl rfl rfl hr2 <|
  s_iload rfl rfl rfl <|
  s_iald rfl rfl hi3 <|
  s_isubp rfl ho4 <|
  s_istore [some (vR (some (21, 0, a0))), some (vI x1), some (vI x2), some (vI x3), some (vI x4), some (vI x5), some (vI (x5 - (I p2 x4.toNat)))] rfl rfl <|
  s_iload rfl rfl rfl <|
  s_if_eq 127 rfl rfl kt kf
theorem b_X11_meant_98 {d : Nat} {r : PO × PM} {I : Nat → Nat → Int} {S : PS} {a0 : Nat} {x1 x2 x3 x4 x5 x6 z : Int} {I1 : Nat → Nat → Int} {S1 : PS} (c : Ca d mX11_mendsLacks [vR (some (21, 0, a0)), vI x6] (I, S) (.inl (some (vI z))) (I1, S1)) (k : Ev (d + 1) mX11_meant (104, [some (vR (some (21, 0, a0))), some (vI x1), some (vI x2), some (vI x3), some (vI x4), some (vI x5), some (vI x6)], [vI z], (I1, S1)) r) : Ev (d + 1) mX11_meant (98, [some (vR (some (21, 0, a0))), some (vI x1), some (vI x2), some (vI x3), some (vI x4), some (vI x5), some (vI x6)], [], (I, S)) r :=
  s_aload_n rfl rfl rfl <|
  s_iload rfl rfl rfl <|
  s_cvI rfl rfl rfl rfl rfl c k
theorem b_X11_meant_104 {d : Nat} {r : PO × PM} {I : Nat → Nat → Int} {S : PS} {a0 : Nat} {x1 x2 x3 x4 x5 x6 xs0 : Int} (kt : xs0 = 0 → Ev d mX11_meant (127, [some (vR (some (21, 0, a0))), some (vI x1), some (vI x2), some (vI x3), some (vI x4), some (vI x5), some (vI x6)], [], (I, S)) r) (kf : xs0 ≠ 0 → Ev d mX11_meant (107, [some (vR (some (21, 0, a0))), some (vI x1), some (vI x2), some (vI x3), some (vI x4), some (vI x5), some (vI x6)], [], (I, S)) r) : Ev d mX11_meant (104, [some (vR (some (21, 0, a0))), some (vI x1), some (vI x2), some (vI x3), some (vI x4), some (vI x5), some (vI x6)], [vI xs0], (I, S)) r :=
  s_if_eq 127 rfl rfl kt kf
theorem b_X11_meant_107 {d : Nat} {r : PO × PM} {I : Nat → Nat → Int} {S : PS} {a0 : Nat} {x1 x2 x3 x4 x5 x6 : Int} (kt : x2 ≠ 0 → Ev d mX11_meant (122, [some (vR (some (21, 0, a0))), some (vI x1), some (vI x2), some (vI x3), some (vI x4), some (vI x5), some (vI x6)], [], (I, S)) r) (kf : x2 = 0 → Ev d mX11_meant (111, [some (vR (some (21, 0, a0))), some (vI x1), some (vI x2), some (vI x3), some (vI x4), some (vI x5), some (vI x6)], [], (I, S)) r) : Ev d mX11_meant (107, [some (vR (some (21, 0, a0))), some (vI x1), some (vI x2), some (vI x3), some (vI x4), some (vI x5), some (vI x6)], [], (I, S)) r :=
  s_iload_n rfl rfl rfl <|
  s_if_ne 122 rfl rfl kt kf
theorem b_X11_meant_111 {d : Nat} {r : PO × PM} {I : Nat → Nat → Int} {S : PS} {a0 : Nat} {x1 x2 x3 x4 x5 x6 : Int} (ho1 : -2147483648 ≤ 100 * x4 ∧ 100 * x4 ≤ 2147483647) (ho2 : -2147483648 ≤ (100 * x4) + x5 ∧ (100 * x4) + x5 ≤ 2147483647) (k : Ev d mX11_meant (123, [some (vR (some (21, 0, a0))), some (vI x1), some (vI x2), some (vI x3), some (vI x4), some (vI x5), some (vI x6)], [vI ((100 * x4) + x5)], (I, S)) r) : Ev d mX11_meant (111, [some (vR (some (21, 0, a0))), some (vI x1), some (vI x2), some (vI x3), some (vI x4), some (vI x5), some (vI x6)], [], (I, S)) r :=
  s_bipush rfl rfl <|
  s_iload rfl rfl rfl <|
  s_imulp rfl ho1 <|
  s_iload rfl rfl rfl <|
  s_iaddp rfl ho2 <|
  s_goto 123 rfl rfl k
theorem b_X11_meant_122 {d : Nat} {r : PO × PM} {I : Nat → Nat → Int} {S : PS} {a0 : Nat} {x1 x2 x3 x4 x5 x6 : Int} (k : Ev d mX11_meant (123, [some (vR (some (21, 0, a0))), some (vI x1), some (vI x2), some (vI x3), some (vI x4), some (vI x5), some (vI x6)], [vI x3], (I, S)) r) : Ev d mX11_meant (122, [some (vR (some (21, 0, a0))), some (vI x1), some (vI x2), some (vI x3), some (vI x4), some (vI x5), some (vI x6)], [], (I, S)) r :=
  s_iload_n rfl rfl rfl <|
  k
theorem b_X11_meant_123 {d : Nat} {r : PO × PM} {I : Nat → Nat → Int} {S : PS} {a0 : Nat} {x1 x2 x3 x4 x5 x6 xs0 : Int} (ho1 : -2147483648 ≤ x2 + 1 ∧ x2 + 1 ≤ 2147483647) (k : Ev d mX11_meant (127, [some (vR (some (21, 0, a0))), some (vI x1), some (vI (x2 + 1)), some (vI xs0), some (vI x4), some (vI x5), some (vI x6)], [], (I, S)) r) : Ev d mX11_meant (123, [some (vR (some (21, 0, a0))), some (vI x1), some (vI x2), some (vI x3), some (vI x4), some (vI x5), some (vI x6)], [vI xs0], (I, S)) r :=
  s_istore_n [some (vR (some (21, 0, a0))), some (vI x1), some (vI x2), some (vI xs0), some (vI x4), some (vI x5), some (vI x6)] rfl rfl <|
  s_iincp [some (vR (some (21, 0, a0))), some (vI x1), some (vI (x2 + 1)), some (vI xs0), some (vI x4), some (vI x5), some (vI x6)] rfl rfl ho1 rfl <|
  k
theorem b_X11_meant_127 {d : Nat} {r : PO × PM} {I : Nat → Nat → Int} {S : PS} {a0 : Nat} {x1 x2 x3 x4 x5 x6 : Int} (ho1 : -2147483648 ≤ x5 + 1 ∧ x5 + 1 ≤ 2147483647) (k : Ev d mX11_meant (71, [some (vR (some (21, 0, a0))), some (vI x1), some (vI x2), some (vI x3), some (vI x4), some (vI (x5 + 1)), none], [], (I, S)) r) : Ev d mX11_meant (127, [some (vR (some (21, 0, a0))), some (vI x1), some (vI x2), some (vI x3), some (vI x4), some (vI x5), some (vI x6)], [], (I, S)) r :=
  s_iincp [some (vR (some (21, 0, a0))), some (vI x1), some (vI x2), some (vI x3), some (vI x4), some (vI (x5 + 1)), some (vI x6)] rfl rfl ho1 rfl <|
  s_goto 71 rfl rfl (ev_forget [false, false, false, false, false, false, true] rfl k)
theorem b_X11_meant_133 {d : Nat} {r : PO × PM} {I : Nat → Nat → Int} {S : PS} {a0 : Nat} {x1 x2 x3 x4 x5 : Int} (ho1 : -2147483648 ≤ x4 + 1 ∧ x4 + 1 ≤ 2147483647) (k : Ev d mX11_meant (47, [some (vR (some (21, 0, a0))), some (vI x1), some (vI x2), some (vI x3), some (vI (x4 + 1)), none, none], [], (I, S)) r) : Ev d mX11_meant (133, [some (vR (some (21, 0, a0))), some (vI x1), some (vI x2), some (vI x3), some (vI x4), some (vI x5), none], [], (I, S)) r :=
  s_iincp [some (vR (some (21, 0, a0))), some (vI x1), some (vI x2), some (vI x3), some (vI (x4 + 1)), some (vI x5), none] rfl rfl ho1 rfl <|
  s_goto 47 rfl rfl (ev_forget [false, false, false, false, false, true, false] rfl k)
theorem b_X11_meant_139 {d : Nat} {r : PO × PM} {I : Nat → Nat → Int} {S : PS} {a0 : Nat} {x1 x2 x3 x4 : Int} (kt : x1 ≠ 0 → Ev d mX11_meant (147, [some (vR (some (21, 0, a0))), some (vI x1), some (vI x2), some (vI x3), some (vI x4), none, none], [], (I, S)) r) (kf : x1 = 0 → Ev d mX11_meant (143, [some (vR (some (21, 0, a0))), some (vI x1), some (vI x2), some (vI x3), some (vI x4), none, none], [], (I, S)) r) : Ev d mX11_meant (139, [some (vR (some (21, 0, a0))), some (vI x1), some (vI x2), some (vI x3), some (vI x4), none, none], [], (I, S)) r :=
  s_iload_n rfl rfl rfl <|
  s_if_ne 147 rfl rfl kt kf
theorem b_X11_meant_143 {d : Nat} {r : PO × PM} {I : Nat → Nat → Int} {S : PS} {a0 : Nat} {x1 x2 x3 x4 : Int} (k : Ev d mX11_meant (148, [some (vR (some (21, 0, a0))), some (vI x1), some (vI x2), some (vI x3), some (vI x4), none, none], [vI x2], (I, S)) r) : Ev d mX11_meant (143, [some (vR (some (21, 0, a0))), some (vI x1), some (vI x2), some (vI x3), some (vI x4), none, none], [], (I, S)) r :=
  s_iload_n rfl rfl rfl <|
  s_goto 148 rfl rfl k
theorem b_X11_meant_147 {d : Nat} {r : PO × PM} {I : Nat → Nat → Int} {S : PS} {a0 : Nat} {x1 x2 x3 x4 : Int} (k : Ev d mX11_meant (148, [some (vR (some (21, 0, a0))), some (vI x1), some (vI x2), some (vI x3), some (vI x4), none, none], [vI x3], (I, S)) r) : Ev d mX11_meant (147, [some (vR (some (21, 0, a0))), some (vI x1), some (vI x2), some (vI x3), some (vI x4), none, none], [], (I, S)) r :=
  s_iload_n rfl rfl rfl <|
  k
theorem b_X11_meant_148 {d : Nat} {I : Nat → Nat → Int} {S : PS} {a0 : Nat} {x1 x2 x3 x4 xs0 : Int} : Ev d mX11_meant (148, [some (vR (some (21, 0, a0))), some (vI x1), some (vI x2), some (vI x3), some (vI x4), none, none], [vI xs0], (I, S)) (.inl (some (vI xs0)), (I, S)) :=
  s_ret rfl rfl
theorem b_X11_years_0 {d : Nat} {r : PO × PM} {I : Nat → Nat → Int} {S : PS} {a0 : Nat} {x1 x2 x3 : Int} (kt : x3 < 0 → Ev d mX11_years (9, [some (vR (some (21, 0, a0))), some (vI x1), some (vI x2), some (vI x3), none], [], (I, S)) r) (kf : 0 ≤ x3 → Ev d mX11_years (4, [some (vR (some (21, 0, a0))), some (vI x1), some (vI x2), some (vI x3), none], [], (I, S)) r) : Ev d mX11_years (0, [some (vR (some (21, 0, a0))), some (vI x1), some (vI x2), some (vI x3), none], [], (I, S)) r :=
  s_iload_n rfl rfl rfl <|
  s_if_lt 9 rfl rfl kt kf
theorem b_X11_years_4 {d : Nat} {r : PO × PM} {I : Nat → Nat → Int} {S : PS} {a0 : Nat} {x1 x2 x3 : Int} (kt : x3 ≤ 2 → Ev d mX11_years (17, [some (vR (some (21, 0, a0))), some (vI x1), some (vI x2), some (vI x3), none], [], (I, S)) r) (kf : 2 < x3 → Ev d mX11_years (9, [some (vR (some (21, 0, a0))), some (vI x1), some (vI x2), some (vI x3), none], [], (I, S)) r) : Ev d mX11_years (4, [some (vR (some (21, 0, a0))), some (vI x1), some (vI x2), some (vI x3), none], [], (I, S)) r :=
  s_iload_n rfl rfl rfl <|
  s_iconst rfl rfl <|
  s_icmp_le 17 rfl rfl kt kf
theorem b_X11_years_9 {d : Nat} {I : Nat → Nat → Int} {S : PS} {a0 : Nat} {x1 x2 x3 : Int} : Ev d mX11_years (9, [some (vR (some (21, 0, a0))), some (vI x1), some (vI x2), some (vI x3), none], [], (I, S)) (.inr 1, (I, exS S)) :=
  s_throw rfl rfl rfl rfl rfl rfl rfl
theorem b_X11_years_17 {d : Nat} {r : PO × PM} {I : Nat → Nat → Int} {S : PS} {a0 : Nat} {x1 x2 x3 : Int} (kt : x2 < 0 → Ev d mX11_years (27, [some (vR (some (21, 0, a0))), some (vI x1), some (vI x2), some (vI x3), none], [], (I, S)) r) (kf : 0 ≤ x2 → Ev d mX11_years (21, [some (vR (some (21, 0, a0))), some (vI x1), some (vI x2), some (vI x3), none], [], (I, S)) r) : Ev d mX11_years (17, [some (vR (some (21, 0, a0))), some (vI x1), some (vI x2), some (vI x3), none], [], (I, S)) r :=
  s_iload_n rfl rfl rfl <|
  s_if_lt 27 rfl rfl kt kf
theorem b_X11_years_21 {d : Nat} {r : PO × PM} {I : Nat → Nat → Int} {S : PS} {a0 : Nat} {x1 x2 x3 : Int} (kt : x2 ≤ 100 → Ev d mX11_years (35, [some (vR (some (21, 0, a0))), some (vI x1), some (vI x2), some (vI x3), none], [], (I, S)) r) (kf : 100 < x2 → Ev d mX11_years (27, [some (vR (some (21, 0, a0))), some (vI x1), some (vI x2), some (vI x3), none], [], (I, S)) r) : Ev d mX11_years (21, [some (vR (some (21, 0, a0))), some (vI x1), some (vI x2), some (vI x3), none], [], (I, S)) r :=
  s_iload_n rfl rfl rfl <|
  s_bipush rfl rfl <|
  s_icmp_le 35 rfl rfl kt kf
theorem b_X11_years_27 {d : Nat} {I : Nat → Nat → Int} {S : PS} {a0 : Nat} {x1 x2 x3 : Int} : Ev d mX11_years (27, [some (vR (some (21, 0, a0))), some (vI x1), some (vI x2), some (vI x3), none], [], (I, S)) (.inr 0, (I, exS S)) :=
  s_throw rfl rfl rfl rfl rfl rfl rfl
theorem b_X11_years_35 {d : Nat} {r : PO × PM} {I : Nat → Nat → Int} {S : PS} {a0 p1 p2 p3 : Nat} {x1 x2 x3 : Int} {I1 : Nat → Nat → Int} {S1 : PS} (hr1 : S.1 a0 9 = some (18, 0, p1)) (hr2 : S.1 a0 6 = some (19, 0, p2)) (hr3 : S.1 p2 0 = some (13, 0, p3)) (c : Ca d mX8_begin [vR (some (18, 0, p1)), vR (some (13, 0, p3))] (I, S) (.inl none) (I1, S1)) (k : Ev (d + 1) mX11_years (49, [some (vR (some (21, 0, a0))), some (vI x1), some (vI x2), some (vI x3), none], [], (I1, S1)) r) : Ev (d + 1) mX11_years (35, [some (vR (some (21, 0, a0))), some (vI x1), some (vI x2), some (vI x3), none], [], (I, S)) r :=
  s_aload_n rfl rfl rfl <|
  s_getR rfl rfl rfl hr1 <|
  s_aload_n rfl rfl rfl <|
  s_getR rfl rfl rfl hr2 <|
  s_getR rfl rfl rfl hr3 <|
  s_cvV rfl rfl rfl rfl rfl c k
theorem b_X11_years_49 {d : Nat} {r : PO × PM} {I : Nat → Nat → Int} {S : PS} {a0 p1 p2 : Nat} {x1 x2 x3 z : Int} {I1 : Nat → Nat → Int} {S1 : PS} (hr1 : S.1 a0 9 = some (18, 0, p1)) (hr2 : S.1 a0 2 = some (11, 0, p2)) (c : Ca d mX8_liveYears [vR (some (18, 0, p1)), vR (some (11, 0, p2)), vI x1, vI x2] (I, S) (.inl (some (vI z))) (I1, S1)) (k : Ev (d + 1) mX11_years (62, [some (vR (some (21, 0, a0))), some (vI x1), some (vI x2), some (vI x3), none], [vI z], (I1, S1)) r) : Ev (d + 1) mX11_years (49, [some (vR (some (21, 0, a0))), some (vI x1), some (vI x2), some (vI x3), none], [], (I, S)) r :=
  s_aload_n rfl rfl rfl <|
  s_getR rfl rfl rfl hr1 <|
  s_aload_n rfl rfl rfl <|
  s_getR rfl rfl rfl hr2 <|
  s_iload_n rfl rfl rfl <|
  s_iload_n rfl rfl rfl <|
  s_cvI rfl rfl rfl rfl rfl c k
theorem b_X11_years_62 {d : Nat} {r : PO × PM} {I : Nat → Nat → Int} {S : PS} {a0 : Nat} {x1 x2 x3 xs0 : Int} (kt : x3 ≠ 0 → Ev d mX11_years (79, [some (vR (some (21, 0, a0))), some (vI x1), some (vI x2), some (vI x3), some (vI xs0)], [], (I, S)) r) (kf : x3 = 0 → Ev d mX11_years (68, [some (vR (some (21, 0, a0))), some (vI x1), some (vI x2), some (vI x3), some (vI xs0)], [], (I, S)) r) : Ev d mX11_years (62, [some (vR (some (21, 0, a0))), some (vI x1), some (vI x2), some (vI x3), none], [vI xs0], (I, S)) r :=
  s_istore [some (vR (some (21, 0, a0))), some (vI x1), some (vI x2), some (vI x3), some (vI xs0)] rfl rfl <|
  s_iload_n rfl rfl rfl <|
  s_if_ne 79 rfl rfl kt kf
theorem b_X11_years_68 {d : Nat} {r : PO × PM} {I : Nat → Nat → Int} {S : PS} {a0 p1 p2 : Nat} {x1 x2 x3 x4 z : Int} {I1 : Nat → Nat → Int} {S1 : PS} (hr1 : S.1 a0 9 = some (18, 0, p1)) (hr2 : S.1 p1 0 = some (13, 0, p2)) (c : Ca d mX2_paintedCount [vR (some (13, 0, p2))] (I, S) (.inl (some (vI z))) (I1, S1)) (k : Ev (d + 1) mX11_years (78, [some (vR (some (21, 0, a0))), some (vI x1), some (vI x2), some (vI x3), some (vI x4)], [vI z], (I1, S1)) r) : Ev (d + 1) mX11_years (68, [some (vR (some (21, 0, a0))), some (vI x1), some (vI x2), some (vI x3), some (vI x4)], [], (I, S)) r :=
  s_aload_n rfl rfl rfl <|
  s_getR rfl rfl rfl hr1 <|
  s_getR rfl rfl rfl hr2 <|
  s_cvI rfl rfl rfl rfl rfl c k
theorem b_X11_years_78 {d : Nat} {I : Nat → Nat → Int} {S : PS} {a0 : Nat} {x1 x2 x3 x4 xs0 : Int} : Ev d mX11_years (78, [some (vR (some (21, 0, a0))), some (vI x1), some (vI x2), some (vI x3), some (vI x4)], [vI xs0], (I, S)) (.inl (some (vI xs0)), (I, S)) :=
  s_ret rfl rfl
theorem b_X11_years_79 {d : Nat} {r : PO × PM} {I : Nat → Nat → Int} {S : PS} {a0 : Nat} {x1 x2 x3 x4 : Int} (kt : x3 ≠ 1 → Ev d mX11_years (89, [some (vR (some (21, 0, a0))), some (vI x1), some (vI x2), some (vI x3), some (vI x4)], [], (I, S)) r) (kf : x3 = 1 → Ev d mX11_years (84, [some (vR (some (21, 0, a0))), some (vI x1), some (vI x2), some (vI x3), some (vI x4)], [], (I, S)) r) : Ev d mX11_years (79, [some (vR (some (21, 0, a0))), some (vI x1), some (vI x2), some (vI x3), some (vI x4)], [], (I, S)) r :=
  s_iload_n rfl rfl rfl <|
  s_iconst rfl rfl <|
  s_icmp_ne 89 rfl rfl kt kf
theorem b_X11_years_84 {d : Nat} {r : PO × PM} {I : Nat → Nat → Int} {S : PS} {a0 : Nat} {x1 x2 x3 x4 : Int} (k : Ev d mX11_years (99, [some (vR (some (21, 0, a0))), some (vI x1), some (vI x2), some (vI x3), some (vI x4)], [vI x4], (I, S)) r) : Ev d mX11_years (84, [some (vR (some (21, 0, a0))), some (vI x1), some (vI x2), some (vI x3), some (vI x4)], [], (I, S)) r :=
  s_iload rfl rfl rfl <|
  s_goto 99 rfl rfl k
theorem b_X11_years_89 {d : Nat} {r : PO × PM} {I : Nat → Nat → Int} {S : PS} {a0 p1 p2 : Nat} {x1 x2 x3 x4 z : Int} {I1 : Nat → Nat → Int} {S1 : PS} (hr1 : S.1 a0 9 = some (18, 0, p1)) (hr2 : S.1 p1 0 = some (13, 0, p2)) (c : Ca d mX2_unlikeColours [vR (some (13, 0, p2))] (I, S) (.inl (some (vI z))) (I1, S1)) (k : Ev (d + 1) mX11_years (99, [some (vR (some (21, 0, a0))), some (vI x1), some (vI x2), some (vI x3), some (vI x4)], [vI z], (I1, S1)) r) : Ev (d + 1) mX11_years (89, [some (vR (some (21, 0, a0))), some (vI x1), some (vI x2), some (vI x3), some (vI x4)], [], (I, S)) r :=
  s_aload_n rfl rfl rfl <|
  s_getR rfl rfl rfl hr1 <|
  s_getR rfl rfl rfl hr2 <|
  s_cvI rfl rfl rfl rfl rfl c k
theorem b_X11_years_99 {d : Nat} {I : Nat → Nat → Int} {S : PS} {a0 : Nat} {x1 x2 x3 x4 xs0 : Int} : Ev d mX11_years (99, [some (vR (some (21, 0, a0))), some (vI x1), some (vI x2), some (vI x3), some (vI x4)], [vI xs0], (I, S)) (.inl (some (vI xs0)), (I, S)) :=
  s_ret rfl rfl
theorem b_X11_image_0 {d : Nat} {r : PO × PM} {I : Nat → Nat → Int} {S : PS} {a0 p1 p2 : Nat} {I1 : Nat → Nat → Int} {S1 : PS} (hr1 : S.1 a0 7 = some (19, 0, p1)) (hr2 : S.1 a0 6 = some (19, 0, p2)) (c : Ca d mX9_copyFrom [vR (some (19, 0, p1)), vR (some (19, 0, p2))] (I, S) (.inl none) (I1, S1)) (k : Ev (d + 1) mX11_image (11, [some (vR (some (21, 0, a0)))], [], (I1, S1)) r) : Ev (d + 1) mX11_image (0, [some (vR (some (21, 0, a0)))], [], (I, S)) r :=
  s_aload_n rfl rfl rfl <|
  s_getR rfl rfl rfl hr1 <|
  s_aload_n rfl rfl rfl <|
  s_getR rfl rfl rfl hr2 <|
  s_cvV rfl rfl rfl rfl rfl c k
theorem b_X11_image_11 {d : Nat} {I : Nat → Nat → Int} {S : PS} {a0 : Nat} : Ev d mX11_image (11, [some (vR (some (21, 0, a0)))], [], (I, S)) (.inl none, ((up2 I a0 8 1), S)) :=
  s_aload_n rfl rfl rfl <|
  s_iconst rfl rfl <|
  s_putZ rfl rfl rfl (Or.inr rfl) <|
  s_vret rfl rfl
theorem b_X11_restore_0 {d : Nat} {r : PO × PM} {I : Nat → Nat → Int} {S : PS} {a0 : Nat} (kt : I a0 8 ≠ 0 → Ev d mX11_restore (9, [some (vR (some (21, 0, a0)))], [], (I, S)) r) (kf : I a0 8 = 0 → Ev d mX11_restore (7, [some (vR (some (21, 0, a0)))], [], (I, S)) r) : Ev d mX11_restore (0, [some (vR (some (21, 0, a0)))], [], (I, S)) r :=
  s_aload_n rfl rfl rfl <|
  s_getI rfl rfl rfl <|
  s_if_ne 9 rfl rfl kt kf
theorem b_X11_restore_7 {d : Nat} {I : Nat → Nat → Int} {S : PS} {a0 : Nat} : Ev d mX11_restore (7, [some (vR (some (21, 0, a0)))], [], (I, S)) (.inl (some (vI 0)), (I, S)) :=
  s_iconst rfl rfl <|
  s_ret rfl rfl
theorem b_X11_restore_9 {d : Nat} {r : PO × PM} {I : Nat → Nat → Int} {S : PS} {a0 p1 p2 : Nat} {I1 : Nat → Nat → Int} {S1 : PS} (hr1 : S.1 a0 6 = some (19, 0, p1)) (hr2 : S.1 a0 7 = some (19, 0, p2)) (c : Ca d mX9_copyFrom [vR (some (19, 0, p1)), vR (some (19, 0, p2))] (I, S) (.inl none) (I1, S1)) (k : Ev (d + 1) mX11_restore (20, [some (vR (some (21, 0, a0)))], [], (I1, S1)) r) : Ev (d + 1) mX11_restore (9, [some (vR (some (21, 0, a0)))], [], (I, S)) r :=
  s_aload_n rfl rfl rfl <|
  s_getR rfl rfl rfl hr1 <|
  s_aload_n rfl rfl rfl <|
  s_getR rfl rfl rfl hr2 <|
  s_cvV rfl rfl rfl rfl rfl c k
theorem b_X11_restore_20 {d : Nat} {I : Nat → Nat → Int} {S : PS} {a0 : Nat} : Ev d mX11_restore (20, [some (vR (some (21, 0, a0)))], [], (I, S)) (.inl (some (vI 1)), (I, S)) :=
  s_iconst rfl rfl <|
  s_ret rfl rfl
theorem b_X11_putBytes_0 {d : Nat} {r : PO × PM} {I : Nat → Nat → Int} {S : PS} {a0 : Nat} {x1 : Int} (k : Ev d mX11_putBytes (3, [some (vR (some (21, 0, a0))), some (vI x1), some (vI 24)], [], (I, S)) r) : Ev d mX11_putBytes (0, [some (vR (some (21, 0, a0))), some (vI x1), none], [], (I, S)) r :=
  s_bipush rfl rfl <|
  s_istore_n [some (vR (some (21, 0, a0))), some (vI x1), some (vI 24)] rfl rfl <|
  k
theorem b_X11_putBytes_3 {d : Nat} {r : PO × PM} {I : Nat → Nat → Int} {S : PS} {a0 : Nat} {x1 x2 : Int} (kt : x2 < 0 → Ev d mX11_putBytes (49, [some (vR (some (21, 0, a0))), some (vI x1), some (vI x2)], [], (I, S)) r) (kf : 0 ≤ x2 → Ev d mX11_putBytes (7, [some (vR (some (21, 0, a0))), some (vI x1), some (vI x2)], [], (I, S)) r) : Ev d mX11_putBytes (3, [some (vR (some (21, 0, a0))), some (vI x1), some (vI x2)], [], (I, S)) r :=
  s_iload_n rfl rfl rfl <|
  s_if_lt 49 rfl rfl kt kf
theorem b_X11_putBytes_7 {d : Nat} {r : PO × PM} {I : Nat → Nat → Int} {S : PS} {a0 : Nat} {x1 x2 : Int} (kt : 700 ≤ I a0 1 → Ev d mX11_putBytes (49, [some (vR (some (21, 0, a0))), some (vI x1), some (vI x2)], [], (I, S)) r) (kf : I a0 1 < 700 → Ev d mX11_putBytes (17, [some (vR (some (21, 0, a0))), some (vI x1), some (vI x2)], [], (I, S)) r) : Ev d mX11_putBytes (7, [some (vR (some (21, 0, a0))), some (vI x1), some (vI x2)], [], (I, S)) r :=
  s_aload_n rfl rfl rfl <|
  s_getI rfl rfl rfl <|
  s_sipush rfl rfl <|
  s_icmp_ge 49 rfl rfl kt kf
theorem b_X11_putBytes_17 {d : Nat} {r : PO × PM} {I : Nat → Nat → Int} {S : PS} {a0 p1 p2 q2 : Nat} {x1 x2 : Int} (hr1 : S.1 a0 0 = some (20, 0, p1)) (hr2 : S.1 p1 0 = some (1, q2, p2)) (hi3 : 0 ≤ I a0 1 ∧ I a0 1 < (q2 : Nat)) (ho4 : -2147483648 ≤ ((up2 I p2 ((I a0 1).toNat) (p_i2b (p_i2b (p_shr x1 x2)))) a0 1) + 1 ∧ ((up2 I p2 ((I a0 1).toNat) (p_i2b (p_i2b (p_shr x1 x2)))) a0 1) + 1 ≤ 2147483647) (ho5 : -2147483648 ≤ x2 - 8 ∧ x2 - 8 ≤ 2147483647) (k : Ev d mX11_putBytes (3, [some (vR (some (21, 0, a0))), some (vI x1), some (vI (x2 - 8))], [], ((up2 (up2 I p2 ((I a0 1).toNat) (p_i2b (p_i2b (p_shr x1 x2)))) a0 1 (((up2 I p2 ((I a0 1).toNat) (p_i2b (p_i2b (p_shr x1 x2)))) a0 1) + 1)), S)) r) : Ev d mX11_putBytes (17, [some (vR (some (21, 0, a0))), some (vI x1), some (vI x2)], [], (I, S)) r :=
  s_aload_n rfl rfl rfl <|
  s_getR rfl rfl rfl hr1 <|
  s_getR rfl rfl rfl hr2 <|
  s_aload_n rfl rfl rfl <|
  s_getI rfl rfl rfl <|
  s_iload_n rfl rfl rfl <|
  s_iload_n rfl rfl rfl <|
  s_ishr rfl <|
  s_i2b rfl <|
  s_bast rfl hi3 <|
  s_aload_n rfl rfl rfl <|
  s_dup rfl rfl <|
  s_getI rfl rfl rfl <|
  s_iconst rfl rfl <|
  s_iaddp rfl ho4 <|
  s_putI rfl rfl rfl <|
  s_iincpn [some (vR (some (21, 0, a0))), some (vI x1), some (vI (x2 - 8))] rfl rfl ho5 rfl <|
  s_goto 3 rfl rfl k
theorem b_X11_putBytes_49 {d : Nat} {I : Nat → Nat → Int} {S : PS} {a0 : Nat} {x1 x2 : Int} : Ev d mX11_putBytes (49, [some (vR (some (21, 0, a0))), some (vI x1), some (vI x2)], [], (I, S)) (.inl none, (I, S)) :=
  s_vret rfl rfl
theorem b_X11_takeTape_0 {d : Nat} {r : PO × PM} {I : Nat → Nat → Int} {S : PS} {a0 : Nat} {x1 : Int} (kt : x1 < 0 → Ev d mX11_takeTape (12, [some (vR (some (21, 0, a0))), some (vI x1)], [], (I, S)) r) (kf : 0 ≤ x1 → Ev d mX11_takeTape (4, [some (vR (some (21, 0, a0))), some (vI x1)], [], (I, S)) r) : Ev d mX11_takeTape (0, [some (vR (some (21, 0, a0))), some (vI x1)], [], (I, S)) r :=
  s_iload_n rfl rfl rfl <|
  s_if_lt 12 rfl rfl kt kf
theorem b_X11_takeTape_4 {d : Nat} {r : PO × PM} {I : Nat → Nat → Int} {S : PS} {a0 : Nat} {x1 : Int} (kt : x1 ≤ I a0 1 → Ev d mX11_takeTape (20, [some (vR (some (21, 0, a0))), some (vI x1)], [], (I, S)) r) (kf : I a0 1 < x1 → Ev d mX11_takeTape (12, [some (vR (some (21, 0, a0))), some (vI x1)], [], (I, S)) r) : Ev d mX11_takeTape (4, [some (vR (some (21, 0, a0))), some (vI x1)], [], (I, S)) r :=
  s_iload_n rfl rfl rfl <|
  s_aload_n rfl rfl rfl <|
  s_getI rfl rfl rfl <|
  s_icmp_le 20 rfl rfl kt kf
theorem b_X11_takeTape_12 {d : Nat} {I : Nat → Nat → Int} {S : PS} {a0 : Nat} {x1 : Int} : Ev d mX11_takeTape (12, [some (vR (some (21, 0, a0))), some (vI x1)], [], (I, S)) (.inr 0, (I, exS S)) :=
  s_throw rfl rfl rfl rfl rfl rfl rfl
theorem b_X11_takeTape_20 {d : Nat} {r : PO × PM} {I : Nat → Nat → Int} {S : PS} {a0 p1 : Nat} {x1 : Int} {I1 : Nat → Nat → Int} {S1 : PS} (hr1 : S.1 a0 0 = some (20, 0, p1)) (c : Ca d mX10_begin [vR (some (20, 0, p1)), vI x1] ((up2 I a0 1 0), S) (.inl none) (I1, S1)) (k : Ev (d + 1) mX11_takeTape (33, [some (vR (some (21, 0, a0))), some (vI x1)], [], (I1, S1)) r) : Ev (d + 1) mX11_takeTape (20, [some (vR (some (21, 0, a0))), some (vI x1)], [], (I, S)) r :=
  s_aload_n rfl rfl rfl <|
  s_iconst rfl rfl <|
  s_putI rfl rfl rfl <|
  s_aload_n rfl rfl rfl <|
  s_getR rfl rfl rfl hr1 <|
  s_iload_n rfl rfl rfl <|
  s_cvV rfl rfl rfl rfl rfl c k
theorem b_X11_takeTape_33 {d : Nat} {I : Nat → Nat → Int} {S : PS} {a0 : Nat} {x1 : Int} : Ev d mX11_takeTape (33, [some (vR (some (21, 0, a0))), some (vI x1)], [], (I, S)) (.inl none, (I, S)) :=
  s_vret rfl rfl
theorem b_X11_pieceAt_0 {d : Nat} {r : PO × PM} {I : Nat → Nat → Int} {S : PS} {a0 : Nat} {x1 : Int} (kt : x1 < 0 → Ev d mX11_pieceAt (15, [some (vR (some (21, 0, a0))), some (vI x1)], [], (I, S)) r) (kf : 0 ≤ x1 → Ev d mX11_pieceAt (4, [some (vR (some (21, 0, a0))), some (vI x1)], [], (I, S)) r) : Ev d mX11_pieceAt (0, [some (vR (some (21, 0, a0))), some (vI x1)], [], (I, S)) r :=
  s_iload_n rfl rfl rfl <|
  s_if_lt 15 rfl rfl kt kf
theorem b_X11_pieceAt_4 {d : Nat} {r : PO × PM} {I : Nat → Nat → Int} {S : PS} {a0 p1 : Nat} {x1 : Int} (hr1 : S.1 a0 2 = some (11, 0, p1)) (kt : x1 < I p1 1 → Ev d mX11_pieceAt (23, [some (vR (some (21, 0, a0))), some (vI x1)], [], (I, S)) r) (kf : I p1 1 ≤ x1 → Ev d mX11_pieceAt (15, [some (vR (some (21, 0, a0))), some (vI x1)], [], (I, S)) r) : Ev d mX11_pieceAt (4, [some (vR (some (21, 0, a0))), some (vI x1)], [], (I, S)) r :=
  s_iload_n rfl rfl rfl <|
  s_aload_n rfl rfl rfl <|
  s_getR rfl rfl rfl hr1 <|
  s_getI rfl rfl rfl <|
  s_icmp_lt 23 rfl rfl kt kf
theorem b_X11_pieceAt_15 {d : Nat} {I : Nat → Nat → Int} {S : PS} {a0 : Nat} {x1 : Int} : Ev d mX11_pieceAt (15, [some (vR (some (21, 0, a0))), some (vI x1)], [], (I, S)) (.inr 1, (I, exS S)) :=
  s_throw rfl rfl rfl rfl rfl rfl rfl
theorem b_X11_pieceAt_23 {d : Nat} {I : Nat → Nat → Int} {S : PS} {a0 p1 p2 q2 p4 : Nat} {x1 : Int} (hr1 : S.1 a0 2 = some (11, 0, p1)) (hr2 : S.1 p1 0 = some (3, q2, p2)) (hi3 : 0 ≤ x1 ∧ x1 < (q2 : Nat)) (hr4 : S.1 p2 (x1.toNat) = some (14, 0, p4)) : Ev d mX11_pieceAt (23, [some (vR (some (21, 0, a0))), some (vI x1)], [], (I, S)) (.inl (some (vR (some (14, 0, p4)))), (I, S)) :=
  s_aload_n rfl rfl rfl <|
  s_getR rfl rfl rfl hr1 <|
  s_getR rfl rfl rfl hr2 <|
  s_iload_n rfl rfl rfl <|
  s_aald rfl rfl hi3 hr4 <|
  s_aret rfl rfl
theorem b_X11_codeAt_0 {d : Nat} {r : PO × PM} {I : Nat → Nat → Int} {S : PS} {a0 a1 : Nat} {x2 : Int} (kt : x2 < 0 → Ev d mX11_codeAt (12, [some (vR (some (21, 0, a0))), some (vR (some (16, 0, a1))), some (vI x2)], [], (I, S)) r) (kf : 0 ≤ x2 → Ev d mX11_codeAt (4, [some (vR (some (21, 0, a0))), some (vR (some (16, 0, a1))), some (vI x2)], [], (I, S)) r) : Ev d mX11_codeAt (0, [some (vR (some (21, 0, a0))), some (vR (some (16, 0, a1))), some (vI x2)], [], (I, S)) r :=
  s_iload_n rfl rfl rfl <|
  s_if_lt 12 rfl rfl kt kf
theorem b_X11_codeAt_4 {d : Nat} {r : PO × PM} {I : Nat → Nat → Int} {S : PS} {a0 a1 : Nat} {x2 : Int} (kt : x2 < I a1 1 → Ev d mX11_codeAt (20, [some (vR (some (21, 0, a0))), some (vR (some (16, 0, a1))), some (vI x2)], [], (I, S)) r) (kf : I a1 1 ≤ x2 → Ev d mX11_codeAt (12, [some (vR (some (21, 0, a0))), some (vR (some (16, 0, a1))), some (vI x2)], [], (I, S)) r) : Ev d mX11_codeAt (4, [some (vR (some (21, 0, a0))), some (vR (some (16, 0, a1))), some (vI x2)], [], (I, S)) r :=
  s_iload_n rfl rfl rfl <|
  s_aload_n rfl rfl rfl <|
  s_getI rfl rfl rfl <|
  s_icmp_lt 20 rfl rfl kt kf
theorem b_X11_codeAt_12 {d : Nat} {I : Nat → Nat → Int} {S : PS} {a0 a1 : Nat} {x2 : Int} : Ev d mX11_codeAt (12, [some (vR (some (21, 0, a0))), some (vR (some (16, 0, a1))), some (vI x2)], [], (I, S)) (.inr 1, (I, exS S)) :=
  s_throw rfl rfl rfl rfl rfl rfl rfl
theorem b_X11_codeAt_20 {d : Nat} {I : Nat → Nat → Int} {S : PS} {a0 a1 p1 q1 : Nat} {x2 : Int} (hr1 : S.1 a1 2 = some (0, q1, p1)) (hi2 : 0 ≤ x2 ∧ x2 < (q1 : Nat)) : Ev d mX11_codeAt (20, [some (vR (some (21, 0, a0))), some (vR (some (16, 0, a1))), some (vI x2)], [], (I, S)) (.inl (some (vI (I p1 x2.toNat))), (I, S)) :=
  s_aload_n rfl rfl rfl <|
  s_getR rfl rfl rfl hr1 <|
  s_iload_n rfl rfl rfl <|
  s_iald rfl rfl hi2 <|
  s_ret rfl rfl
theorem b_X11_checkSpot_0 {d : Nat} {r : PO × PM} {I : Nat → Nat → Int} {S : PS} {a0 : Nat} {x1 : Int} (kt : x1 < 0 → Ev d mX11_checkSpot (15, [some (vR (some (21, 0, a0))), some (vI x1)], [], (I, S)) r) (kf : 0 ≤ x1 → Ev d mX11_checkSpot (4, [some (vR (some (21, 0, a0))), some (vI x1)], [], (I, S)) r) : Ev d mX11_checkSpot (0, [some (vR (some (21, 0, a0))), some (vI x1)], [], (I, S)) r :=
  s_iload_n rfl rfl rfl <|
  s_if_lt 15 rfl rfl kt kf
theorem b_X11_checkSpot_4 {d : Nat} {r : PO × PM} {I : Nat → Nat → Int} {S : PS} {a0 p1 : Nat} {x1 : Int} (hr1 : S.1 a0 2 = some (11, 0, p1)) (kt : x1 < I p1 6 → Ev d mX11_checkSpot (23, [some (vR (some (21, 0, a0))), some (vI x1)], [], (I, S)) r) (kf : I p1 6 ≤ x1 → Ev d mX11_checkSpot (15, [some (vR (some (21, 0, a0))), some (vI x1)], [], (I, S)) r) : Ev d mX11_checkSpot (4, [some (vR (some (21, 0, a0))), some (vI x1)], [], (I, S)) r :=
  s_iload_n rfl rfl rfl <|
  s_aload_n rfl rfl rfl <|
  s_getR rfl rfl rfl hr1 <|
  s_getI rfl rfl rfl <|
  s_icmp_lt 23 rfl rfl kt kf
theorem b_X11_checkSpot_15 {d : Nat} {I : Nat → Nat → Int} {S : PS} {a0 : Nat} {x1 : Int} : Ev d mX11_checkSpot (15, [some (vR (some (21, 0, a0))), some (vI x1)], [], (I, S)) (.inr 1, (I, exS S)) :=
  s_throw rfl rfl rfl rfl rfl rfl rfl
theorem b_X11_checkSpot_23 {d : Nat} {I : Nat → Nat → Int} {S : PS} {a0 : Nat} {x1 : Int} : Ev d mX11_checkSpot (23, [some (vR (some (21, 0, a0))), some (vI x1)], [], (I, S)) (.inl none, (I, S)) :=
  s_vret rfl rfl
theorem b_X11_checkRule_0 {d : Nat} {r : PO × PM} {I : Nat → Nat → Int} {S : PS} {a0 : Nat} {x1 : Int} (kt : x1 < 0 → Ev d mX11_checkRule (18, [some (vR (some (21, 0, a0))), some (vI x1)], [], (I, S)) r) (kf : 0 ≤ x1 → Ev d mX11_checkRule (4, [some (vR (some (21, 0, a0))), some (vI x1)], [], (I, S)) r) : Ev d mX11_checkRule (0, [some (vR (some (21, 0, a0))), some (vI x1)], [], (I, S)) r :=
  s_iload_n rfl rfl rfl <|
  s_if_lt 18 rfl rfl kt kf
theorem b_X11_checkRule_4 {d : Nat} {r : PO × PM} {I : Nat → Nat → Int} {S : PS} {a0 p1 p2 : Nat} {x1 : Int} (hr1 : S.1 a0 2 = some (11, 0, p1)) (hr2 : S.1 p1 2 = some (17, 0, p2)) (kt : x1 < I p2 0 → Ev d mX11_checkRule (26, [some (vR (some (21, 0, a0))), some (vI x1)], [], (I, S)) r) (kf : I p2 0 ≤ x1 → Ev d mX11_checkRule (18, [some (vR (some (21, 0, a0))), some (vI x1)], [], (I, S)) r) : Ev d mX11_checkRule (4, [some (vR (some (21, 0, a0))), some (vI x1)], [], (I, S)) r :=
  s_iload_n rfl rfl rfl <|
  s_aload_n rfl rfl rfl <|
  s_getR rfl rfl rfl hr1 <|
  s_getR rfl rfl rfl hr2 <|
  s_getI rfl rfl rfl <|
  s_icmp_lt 26 rfl rfl kt kf
theorem b_X11_checkRule_18 {d : Nat} {I : Nat → Nat → Int} {S : PS} {a0 : Nat} {x1 : Int} : Ev d mX11_checkRule (18, [some (vR (some (21, 0, a0))), some (vI x1)], [], (I, S)) (.inr 1, (I, exS S)) :=
  s_throw rfl rfl rfl rfl rfl rfl rfl
theorem b_X11_checkRule_26 {d : Nat} {I : Nat → Nat → Int} {S : PS} {a0 : Nat} {x1 : Int} : Ev d mX11_checkRule (26, [some (vR (some (21, 0, a0))), some (vI x1)], [], (I, S)) (.inl none, (I, S)) :=
  s_vret rfl rfl
theorem b_X11_refusedAct_0 {d : Nat} {I : Nat → Nat → Int} {S : PS} {a0 p1 q1 : Nat} (hr1 : S.1 a0 14 = some (0, q1, p1)) (hi2 : 1 < q1) (ho3 : -2147483648 ≤ I p1 1 + 1 ∧ I p1 1 + 1 ≤ 2147483647) (hi4 : 1 < q1) : Ev d mX11_refusedAct (0, [some (vR (some (21, 0, a0)))], [], (I, S)) (.inl (some (vI (-1))), ((up2 I p1 1 (I p1 1 + 1)), S)) :=
  s_aload_n rfl rfl rfl <|
  s_getR rfl rfl rfl hr1 <|
  s_iconst rfl rfl <|
  s_dup2 rfl rfl <|
  s_iald rfl rfl (p_lit (k := 1) hi2) <|
  s_iconst rfl rfl <|
  s_iaddp rfl ho3 <|
  s_iast rfl (p_lit (k := 1) hi4) <|
  s_iconst rfl rfl <|
  s_ret rfl rfl
theorem b_X11_isColour_0 {d : Nat} {r : PO × PM} {I : Nat → Nat → Int} {S : PS} {x0 : Int} (kt : x0 < 0 → Ev d mX11_isColour (13, [some (vI x0)], [], (I, S)) r) (kf : 0 ≤ x0 → Ev d mX11_isColour (4, [some (vI x0)], [], (I, S)) r) : Ev d mX11_isColour (0, [some (vI x0)], [], (I, S)) r :=
  s_iload_n rfl rfl rfl <|
  s_if_lt 13 rfl rfl kt kf
theorem b_X11_isColour_4 {d : Nat} {r : PO × PM} {I : Nat → Nat → Int} {S : PS} {x0 : Int} (kt : 4 ≤ x0 → Ev d mX11_isColour (13, [some (vI x0)], [], (I, S)) r) (kf : x0 < 4 → Ev d mX11_isColour (9, [some (vI x0)], [], (I, S)) r) : Ev d mX11_isColour (4, [some (vI x0)], [], (I, S)) r :=
  s_iload_n rfl rfl rfl <|
  s_iconst rfl rfl <|
  s_icmp_ge 13 rfl rfl kt kf
theorem b_X11_isColour_9 {d : Nat} {r : PO × PM} {I : Nat → Nat → Int} {S : PS} {x0 : Int} (k : Ev d mX11_isColour (14, [some (vI x0)], [vI 1], (I, S)) r) : Ev d mX11_isColour (9, [some (vI x0)], [], (I, S)) r :=
  s_iconst rfl rfl <|
  s_goto 14 rfl rfl k
theorem b_X11_isColour_13 {d : Nat} {r : PO × PM} {I : Nat → Nat → Int} {S : PS} {x0 : Int} (k : Ev d mX11_isColour (14, [some (vI x0)], [vI 0], (I, S)) r) : Ev d mX11_isColour (13, [some (vI x0)], [], (I, S)) r :=
  s_iconst rfl rfl <|
  k
theorem b_X11_isColour_14 {d : Nat} {I : Nat → Nat → Int} {S : PS} {x0 xs0 : Int} (hb1 : xs0 = 0 ∨ xs0 = 1) : Ev d mX11_isColour (14, [some (vI x0)], [vI xs0], (I, S)) (.inl (some (vI xs0)), (I, S)) :=
  s_retz rfl rfl hb1
theorem b_X11_isDegree_0 {d : Nat} {r : PO × PM} {I : Nat → Nat → Int} {S : PS} {x0 : Int} (kt : x0 < 3 → Ev d mX11_isDegree (15, [some (vI x0)], [], (I, S)) r) (kf : 3 ≤ x0 → Ev d mX11_isDegree (5, [some (vI x0)], [], (I, S)) r) : Ev d mX11_isDegree (0, [some (vI x0)], [], (I, S)) r :=
  s_iload_n rfl rfl rfl <|
  s_iconst rfl rfl <|
  s_icmp_lt 15 rfl rfl kt kf
theorem b_X11_isDegree_5 {d : Nat} {r : PO × PM} {I : Nat → Nat → Int} {S : PS} {x0 : Int} (kt : 9 < x0 → Ev d mX11_isDegree (15, [some (vI x0)], [], (I, S)) r) (kf : x0 ≤ 9 → Ev d mX11_isDegree (11, [some (vI x0)], [], (I, S)) r) : Ev d mX11_isDegree (5, [some (vI x0)], [], (I, S)) r :=
  s_iload_n rfl rfl rfl <|
  s_bipush rfl rfl <|
  s_icmp_gt 15 rfl rfl kt kf
theorem b_X11_isDegree_11 {d : Nat} {r : PO × PM} {I : Nat → Nat → Int} {S : PS} {x0 : Int} (k : Ev d mX11_isDegree (16, [some (vI x0)], [vI 1], (I, S)) r) : Ev d mX11_isDegree (11, [some (vI x0)], [], (I, S)) r :=
  s_iconst rfl rfl <|
  s_goto 16 rfl rfl k
theorem b_X11_isDegree_15 {d : Nat} {r : PO × PM} {I : Nat → Nat → Int} {S : PS} {x0 : Int} (k : Ev d mX11_isDegree (16, [some (vI x0)], [vI 0], (I, S)) r) : Ev d mX11_isDegree (15, [some (vI x0)], [], (I, S)) r :=
  s_iconst rfl rfl <|
  k
theorem b_X11_isDegree_16 {d : Nat} {I : Nat → Nat → Int} {S : PS} {x0 xs0 : Int} (hb1 : xs0 = 0 ∨ xs0 = 1) : Ev d mX11_isDegree (16, [some (vI x0)], [vI xs0], (I, S)) (.inl (some (vI xs0)), (I, S)) :=
  s_retz rfl rfl hb1
theorem b_X11_ringOf_27 {d : Nat} {r : PO × PM} {h : PM} {a0 a1 : Nat} {x2 : Int} {w3 : Rf} {h1 : PM} (ho1 : -2147483648 ≤ x2 + 5 ∧ x2 + 5 ≤ 2147483647) (c : Ca d mX6_init [vR (some (16, 0, (m_sz h))), vI (x2 + 5)] (m_new h 16 0 6) (.inl none) h1) (k : Ev (d + 1) mX11_ringOf (37, [some (vR (some (21, 0, a0))), some (vR (some (14, 0, a1))), some (vI x2), some (vR w3)], [vR (some (16, 0, (m_sz h)))], h1) r) : Ev (d + 1) mX11_ringOf (27, [some (vR (some (21, 0, a0))), some (vR (some (14, 0, a1))), some (vI x2), some (vR w3)], [], h) r :=
  s_new rfl rfl <|
  s_dup rfl rfl <|
  s_iload_n rfl rfl rfl <|
  s_iconst rfl rfl <|
  s_iaddp rfl ho1 <|
  s_ci rfl rfl rfl rfl rfl rfl c k
theorem b_X11_ringOf_37 {d : Nat} {r : PO × PM} {h : PM} {a0 a1 as0 p1 q1 : Nat} {x2 : Int} {w3 : Rf} (hr1 : h.2.1 a0 4 = some (4, q1, p1)) (hi2 : 0 ≤ x2 ∧ x2 < (q1 : Nat)) (k : Ev d mX11_ringOf (45, [some (vR (some (21, 0, a0))), some (vR (some (14, 0, a1))), some (vI x2), none], [], m_sr h p1 (x2.toNat) (some (16, 0, as0))) r) : Ev d mX11_ringOf (37, [some (vR (some (21, 0, a0))), some (vR (some (14, 0, a1))), some (vI x2), some (vR w3)], [vR (some (16, 0, as0))], h) r :=
  s_astore_n [some (vR (some (21, 0, a0))), some (vR (some (14, 0, a1))), some (vI x2), some (vR (some (16, 0, as0)))] rfl rfl <|
  s_aload_n rfl rfl rfl <|
  s_getR rfl rfl rfl hr1 <|
  s_iload_n rfl rfl rfl <|
  s_aload_n rfl rfl rfl <|
  s_aast rfl rfl hi2 <|
  (ev_forget [false, false, false, true] rfl k)
theorem b_X11_studied_0 {d : Nat} {r : PO × PM} {I : Nat → Nat → Int} {S : PS} {a0 a1 : Nat} (kt : I a1 9 ≠ 0 → Ev d mX11_studied (16, [some (vR (some (21, 0, a0))), some (vR (some (14, 0, a1)))], [], (I, S)) r) (kf : I a1 9 = 0 → Ev d mX11_studied (7, [some (vR (some (21, 0, a0))), some (vR (some (14, 0, a1)))], [], (I, S)) r) : Ev d mX11_studied (0, [some (vR (some (21, 0, a0))), some (vR (some (14, 0, a1)))], [], (I, S)) r :=
  s_aload_n rfl rfl rfl <|
  s_getI rfl rfl rfl <|
  s_if_ne 16 rfl rfl kt kf
theorem b_X11_studied_7 {d : Nat} {r : PO × PM} {I : Nat → Nat → Int} {S : PS} {a0 a1 z : Nat} {I1 : Nat → Nat → Int} {S1 : PS} (c : Ca d mX11_ringOf [vR (some (21, 0, a0)), vR (some (14, 0, a1))] (I, S) (.inl (some (vR (some (16, 0, z))))) (I1, S1)) (k : Ev (d + 1) mX11_studied (13, [some (vR (some (21, 0, a0))), some (vR (some (14, 0, a1)))], [vR (some (16, 0, z)), vR (some (14, 0, a1))], (I1, S1)) r) : Ev (d + 1) mX11_studied (7, [some (vR (some (21, 0, a0))), some (vR (some (14, 0, a1)))], [], (I, S)) r :=
  s_aload_n rfl rfl rfl <|
  s_aload_n rfl rfl rfl <|
  s_aload_n rfl rfl rfl <|
  s_cvR rfl rfl rfl rfl rfl c k
theorem b_X11_studied_13 {d : Nat} {r : PO × PM} {I : Nat → Nat → Int} {S : PS} {a0 a1 as0 as1 : Nat} {I1 : Nat → Nat → Int} {S1 : PS} (c : Ca d mX3_study [vR (some (14, 0, as0)), vR (some (16, 0, as1))] (I, S) (.inl none) (I1, S1)) (k : Ev (d + 1) mX11_studied (16, [some (vR (some (21, 0, a0))), some (vR (some (14, 0, a1)))], [], (I1, S1)) r) : Ev (d + 1) mX11_studied (13, [some (vR (some (21, 0, a0))), some (vR (some (14, 0, a1)))], [vR (some (16, 0, as1)), vR (some (14, 0, as0))], (I, S)) r :=
  s_cvV rfl rfl rfl rfl rfl c k
theorem b_X11_studied_16 {d : Nat} {I : Nat → Nat → Int} {S : PS} {a0 a1 : Nat} : Ev d mX11_studied (16, [some (vR (some (21, 0, a0))), some (vR (some (14, 0, a1)))], [], (I, S)) (.inl (some (vR (some (14, 0, a1)))), (I, S)) :=
  s_aload_n rfl rfl rfl <|
  s_aret rfl rfl
theorem b_X11_reduciblePieces_0 {d : Nat} {r : PO × PM} {I : Nat → Nat → Int} {S : PS} {a0 : Nat} (k : Ev d mX11_reduciblePieces (4, [some (vR (some (21, 0, a0))), some (vI 0), some (vI 0), none], [], (I, S)) r) : Ev d mX11_reduciblePieces (0, [some (vR (some (21, 0, a0))), none, none, none], [], (I, S)) r :=
  s_iconst rfl rfl <|
  s_istore_n [some (vR (some (21, 0, a0))), some (vI 0), none, none] rfl rfl <|
  s_iconst rfl rfl <|
  s_istore_n [some (vR (some (21, 0, a0))), some (vI 0), some (vI 0), none] rfl rfl <|
  k
theorem b_X11_reduciblePieces_4 {d : Nat} {r : PO × PM} {I : Nat → Nat → Int} {S : PS} {a0 p1 : Nat} {x1 x2 : Int} (hr1 : S.1 a0 2 = some (11, 0, p1)) (kt : I p1 1 ≤ x2 → Ev d mX11_reduciblePieces (55, [some (vR (some (21, 0, a0))), some (vI x1), some (vI x2), none], [], (I, S)) r) (kf : x2 < I p1 1 → Ev d mX11_reduciblePieces (15, [some (vR (some (21, 0, a0))), some (vI x1), some (vI x2), none], [], (I, S)) r) : Ev d mX11_reduciblePieces (4, [some (vR (some (21, 0, a0))), some (vI x1), some (vI x2), none], [], (I, S)) r :=
  s_iload_n rfl rfl rfl <|
  s_aload_n rfl rfl rfl <|
  s_getR rfl rfl rfl hr1 <|
  s_getI rfl rfl rfl <|
  s_icmp_ge 55 rfl rfl kt kf
theorem b_X11_reduciblePieces_15 {d : Nat} {r : PO × PM} {I : Nat → Nat → Int} {S : PS} {a0 p1 p2 q2 p4 z : Nat} {x1 x2 : Int} {I1 : Nat → Nat → Int} {S1 : PS} (hr1 : S.1 a0 2 = some (11, 0, p1)) (hr2 : S.1 p1 0 = some (3, q2, p2)) (hi3 : 0 ≤ x2 ∧ x2 < (q2 : Nat)) (hr4 : S.1 p2 (x2.toNat) = some (14, 0, p4)) (c : Ca d mX11_studied [vR (some (21, 0, a0)), vR (some (14, 0, p4))] (I, S) (.inl (some (vR (some (14, 0, z))))) (I1, S1)) (k : Ev (d + 1) mX11_reduciblePieces (28, [some (vR (some (21, 0, a0))), some (vI x1), some (vI x2), none], [vR (some (14, 0, z))], (I1, S1)) r) : Ev (d + 1) mX11_reduciblePieces (15, [some (vR (some (21, 0, a0))), some (vI x1), some (vI x2), none], [], (I, S)) r :=
  s_aload_n rfl rfl rfl <|
  s_aload_n rfl rfl rfl <|
  s_getR rfl rfl rfl hr1 <|
  s_getR rfl rfl rfl hr2 <|
  s_iload_n rfl rfl rfl <|
  s_aald rfl rfl hi3 hr4 <|
  s_cvR rfl rfl rfl rfl rfl c k
theorem b_X11_reduciblePieces_28 {d : Nat} {r : PO × PM} {I : Nat → Nat → Int} {S : PS} {a0 as0 : Nat} {x1 x2 z : Int} {I1 : Nat → Nat → Int} {S1 : PS} (c : Ca d mX3_isD [vR (some (14, 0, as0))] (I, S) (.inl (some (vI z))) (I1, S1)) (k : Ev (d + 1) mX11_reduciblePieces (33, [some (vR (some (21, 0, a0))), some (vI x1), some (vI x2), some (vR (some (14, 0, as0)))], [vI z], (I1, S1)) r) : Ev (d + 1) mX11_reduciblePieces (28, [some (vR (some (21, 0, a0))), some (vI x1), some (vI x2), none], [vR (some (14, 0, as0))], (I, S)) r :=
  s_astore_n [some (vR (some (21, 0, a0))), some (vI x1), some (vI x2), some (vR (some (14, 0, as0)))] rfl rfl <|
  s_aload_n rfl rfl rfl <|
  s_cvI rfl rfl rfl rfl rfl c k
theorem b_X11_reduciblePieces_33 {d : Nat} {r : PO × PM} {I : Nat → Nat → Int} {S : PS} {a0 a3 : Nat} {x1 x2 xs0 : Int} (kt : xs0 ≠ 0 → Ev d mX11_reduciblePieces (43, [some (vR (some (21, 0, a0))), some (vI x1), some (vI x2), some (vR (some (14, 0, a3)))], [], (I, S)) r) (kf : xs0 = 0 → Ev d mX11_reduciblePieces (36, [some (vR (some (21, 0, a0))), some (vI x1), some (vI x2), some (vR (some (14, 0, a3)))], [], (I, S)) r) : Ev d mX11_reduciblePieces (33, [some (vR (some (21, 0, a0))), some (vI x1), some (vI x2), some (vR (some (14, 0, a3)))], [vI xs0], (I, S)) r :=
  s_if_ne 43 rfl rfl kt kf
theorem b_X11_reduciblePieces_36 {d : Nat} {r : PO × PM} {I : Nat → Nat → Int} {S : PS} {a0 a3 : Nat} {x1 x2 z : Int} {I1 : Nat → Nat → Int} {S1 : PS} (c : Ca d mX3_isC [vR (some (14, 0, a3))] (I, S) (.inl (some (vI z))) (I1, S1)) (k : Ev (d + 1) mX11_reduciblePieces (40, [some (vR (some (21, 0, a0))), some (vI x1), some (vI x2), some (vR (some (14, 0, a3)))], [vI z], (I1, S1)) r) : Ev (d + 1) mX11_reduciblePieces (36, [some (vR (some (21, 0, a0))), some (vI x1), some (vI x2), some (vR (some (14, 0, a3)))], [], (I, S)) r :=
  s_aload_n rfl rfl rfl <|
  s_cvI rfl rfl rfl rfl rfl c k
theorem b_X11_reduciblePieces_40 {d : Nat} {r : PO × PM} {I : Nat → Nat → Int} {S : PS} {a0 a3 : Nat} {x1 x2 xs0 : Int} (kt : xs0 = 0 → Ev d mX11_reduciblePieces (49, [some (vR (some (21, 0, a0))), some (vI x1), some (vI x2), some (vR (some (14, 0, a3)))], [], (I, S)) r) (kf : xs0 ≠ 0 → Ev d mX11_reduciblePieces (43, [some (vR (some (21, 0, a0))), some (vI x1), some (vI x2), some (vR (some (14, 0, a3)))], [], (I, S)) r) : Ev d mX11_reduciblePieces (40, [some (vR (some (21, 0, a0))), some (vI x1), some (vI x2), some (vR (some (14, 0, a3)))], [vI xs0], (I, S)) r :=
  s_if_eq 49 rfl rfl kt kf
theorem b_X11_reduciblePieces_43 {d : Nat} {r : PO × PM} {I : Nat → Nat → Int} {S : PS} {a0 a3 : Nat} {x1 x2 : Int} (k : Ev d mX11_reduciblePieces (49, [some (vR (some (21, 0, a0))), some (vI (p_or x1 (p_shl 1 x2))), some (vI x2), some (vR (some (14, 0, a3)))], [], (I, S)) r) : Ev d mX11_reduciblePieces (43, [some (vR (some (21, 0, a0))), some (vI x1), some (vI x2), some (vR (some (14, 0, a3)))], [], (I, S)) r :=
  s_iload_n rfl rfl rfl <|
  s_iconst rfl rfl <|
  s_iload_n rfl rfl rfl <|
  s_ishl rfl <|
  s_ior rfl <|
  s_istore_n [some (vR (some (21, 0, a0))), some (vI (p_or x1 (p_shl 1 x2))), some (vI x2), some (vR (some (14, 0, a3)))] rfl rfl <|
  k
theorem b_X11_reduciblePieces_49 {d : Nat} {r : PO × PM} {I : Nat → Nat → Int} {S : PS} {a0 a3 : Nat} {x1 x2 : Int} (ho1 : -2147483648 ≤ x2 + 1 ∧ x2 + 1 ≤ 2147483647) (k : Ev d mX11_reduciblePieces (4, [some (vR (some (21, 0, a0))), some (vI x1), some (vI (x2 + 1)), none], [], (I, S)) r) : Ev d mX11_reduciblePieces (49, [some (vR (some (21, 0, a0))), some (vI x1), some (vI x2), some (vR (some (14, 0, a3)))], [], (I, S)) r :=
  s_iincp [some (vR (some (21, 0, a0))), some (vI x1), some (vI (x2 + 1)), some (vR (some (14, 0, a3)))] rfl rfl ho1 rfl <|
  s_goto 4 rfl rfl (ev_forget [false, false, false, true] rfl k)
theorem b_X11_reduciblePieces_55 {d : Nat} {I : Nat → Nat → Int} {S : PS} {a0 : Nat} {x1 x2 : Int} : Ev d mX11_reduciblePieces (55, [some (vR (some (21, 0, a0))), some (vI x1), some (vI x2), none], [], (I, S)) (.inl (some (vI x1)), (I, S)) :=
  s_iload_n rfl rfl rfl <|
  s_ret rfl rfl
theorem b_X11_takeRow_0 {d : Nat} {r : PO × PM} {I : Nat → Nat → Int} {S : PS} {a0 : Nat} {x1 x2 : Int} (ho1 : -2147483648 ≤ x1 - 1 ∧ x1 - 1 ≤ 2147483647) (k : Ev d mX11_takeRow (7, [some (vR (some (21, 0, a0))), some (vI x1), some (vI x2), some (vI x2), some (vI (x1 - 1)), none], [], (I, S)) r) : Ev d mX11_takeRow (0, [some (vR (some (21, 0, a0))), some (vI x1), some (vI x2), none, none, none], [], (I, S)) r :=
  s_iload_n rfl rfl rfl <|
  s_istore_n [some (vR (some (21, 0, a0))), some (vI x1), some (vI x2), some (vI x2), none, none] rfl rfl <|
  s_iload_n rfl rfl rfl <|
  s_iconst rfl rfl <|
  s_isubp rfl ho1 <|
  s_istore [some (vR (some (21, 0, a0))), some (vI x1), some (vI x2), some (vI x2), some (vI (x1 - 1)), none] rfl rfl <|
  k
theorem b_X11_takeRow_7 {d : Nat} {r : PO × PM} {I : Nat → Nat → Int} {S : PS} {a0 : Nat} {x1 x2 x3 x4 : Int} (kt : x4 < 0 → Ev d mX11_takeRow (46, [some (vR (some (21, 0, a0))), some (vI x1), some (vI x2), some (vI x3), some (vI x4), none], [], (I, S)) r) (kf : 0 ≤ x4 → Ev d mX11_takeRow (12, [some (vR (some (21, 0, a0))), some (vI x1), some (vI x2), some (vI x3), some (vI x4), none], [], (I, S)) r) : Ev d mX11_takeRow (7, [some (vR (some (21, 0, a0))), some (vI x1), some (vI x2), some (vI x3), some (vI x4), none], [], (I, S)) r :=
  s_iload rfl rfl rfl <|
  s_if_lt 46 rfl rfl kt kf
theorem b_X11_takeRow_12 {d : Nat} {r : PO × PM} {I : Nat → Nat → Int} {S : PS} {a0 : Nat} {x1 x2 x3 x4 : Int} (kt : 5 ≤ p_rem x3 10 → Ev d mX11_takeRow (26, [some (vR (some (21, 0, a0))), some (vI x1), some (vI x2), some (vI x3), some (vI x4), some (vI (p_rem x3 10))], [], (I, S)) r) (kf : p_rem x3 10 < 5 → Ev d mX11_takeRow (24, [some (vR (some (21, 0, a0))), some (vI x1), some (vI x2), some (vI x3), some (vI x4), some (vI (p_rem x3 10))], [], (I, S)) r) : Ev d mX11_takeRow (12, [some (vR (some (21, 0, a0))), some (vI x1), some (vI x2), some (vI x3), some (vI x4), none], [], (I, S)) r :=
  s_iload_n rfl rfl rfl <|
  s_bipush rfl rfl <|
  s_irem rfl (by decide) <|
  s_istore [some (vR (some (21, 0, a0))), some (vI x1), some (vI x2), some (vI x3), some (vI x4), some (vI (p_rem x3 10))] rfl rfl <|
  s_iload rfl rfl rfl <|
  s_iconst rfl rfl <|
  s_icmp_ge 26 rfl rfl kt kf
theorem b_X11_takeRow_24 {d : Nat} {I : Nat → Nat → Int} {S : PS} {a0 : Nat} {x1 x2 x3 x4 x5 : Int} : Ev d mX11_takeRow (24, [some (vR (some (21, 0, a0))), some (vI x1), some (vI x2), some (vI x3), some (vI x4), some (vI x5)], [], (I, S)) (.inl (some (vI 0)), (I, S)) :=
  s_iconst rfl rfl <|
  s_ret rfl rfl
theorem b_X11_takeRow_26 {d : Nat} {r : PO × PM} {I : Nat → Nat → Int} {S : PS} {a0 p1 q1 : Nat} {x1 x2 x3 x4 x5 : Int} (hr1 : S.1 a0 11 = some (0, q1, p1)) (hi2 : 0 ≤ x4 ∧ x4 < (q1 : Nat)) (ho3 : -2147483648 ≤ x4 - 1 ∧ x4 - 1 ≤ 2147483647) (k : Ev d mX11_takeRow (7, [some (vR (some (21, 0, a0))), some (vI x1), some (vI x2), some (vI (p_div x3 10)), some (vI (x4 - 1)), none], [], ((up2 I p1 (x4.toNat) x5), S)) r) : Ev d mX11_takeRow (26, [some (vR (some (21, 0, a0))), some (vI x1), some (vI x2), some (vI x3), some (vI x4), some (vI x5)], [], (I, S)) r :=
  s_aload_n rfl rfl rfl <|
  s_getR rfl rfl rfl hr1 <|
  s_iload rfl rfl rfl <|
  s_iload rfl rfl rfl <|
  s_iast rfl hi2 <|
  s_iload_n rfl rfl rfl <|
  s_bipush rfl rfl <|
  s_idiv rfl (by decide) <|
  s_istore_n [some (vR (some (21, 0, a0))), some (vI x1), some (vI x2), some (vI (p_div x3 10)), some (vI x4), some (vI x5)] rfl rfl <|
  s_iincpn [some (vR (some (21, 0, a0))), some (vI x1), some (vI x2), some (vI (p_div x3 10)), some (vI (x4 - 1)), some (vI x5)] rfl rfl ho3 rfl <|
  s_goto 7 rfl rfl (ev_forget [false, false, false, false, false, true] rfl k)
theorem b_X11_takeRow_46 {d : Nat} {r : PO × PM} {I : Nat → Nat → Int} {S : PS} {a0 : Nat} {x1 x2 x3 x4 : Int} (kt : x3 ≠ 0 → Ev d mX11_takeRow (54, [some (vR (some (21, 0, a0))), some (vI x1), some (vI x2), some (vI x3), some (vI x4), none], [], (I, S)) r) (kf : x3 = 0 → Ev d mX11_takeRow (50, [some (vR (some (21, 0, a0))), some (vI x1), some (vI x2), some (vI x3), some (vI x4), none], [], (I, S)) r) : Ev d mX11_takeRow (46, [some (vR (some (21, 0, a0))), some (vI x1), some (vI x2), some (vI x3), some (vI x4), none], [], (I, S)) r :=
  s_iload_n rfl rfl rfl <|
  s_if_ne 54 rfl rfl kt kf
theorem b_X11_takeRow_50 {d : Nat} {r : PO × PM} {I : Nat → Nat → Int} {S : PS} {a0 : Nat} {x1 x2 x3 x4 : Int} (k : Ev d mX11_takeRow (55, [some (vR (some (21, 0, a0))), some (vI x1), some (vI x2), some (vI x3), some (vI x4), none], [vI 1], (I, S)) r) : Ev d mX11_takeRow (50, [some (vR (some (21, 0, a0))), some (vI x1), some (vI x2), some (vI x3), some (vI x4), none], [], (I, S)) r :=
  s_iconst rfl rfl <|
  s_goto 55 rfl rfl k
theorem b_X11_takeRow_54 {d : Nat} {r : PO × PM} {I : Nat → Nat → Int} {S : PS} {a0 : Nat} {x1 x2 x3 x4 : Int} (k : Ev d mX11_takeRow (55, [some (vR (some (21, 0, a0))), some (vI x1), some (vI x2), some (vI x3), some (vI x4), none], [vI 0], (I, S)) r) : Ev d mX11_takeRow (54, [some (vR (some (21, 0, a0))), some (vI x1), some (vI x2), some (vI x3), some (vI x4), none], [], (I, S)) r :=
  s_iconst rfl rfl <|
  k
theorem b_X11_takeRow_55 {d : Nat} {I : Nat → Nat → Int} {S : PS} {a0 : Nat} {x1 x2 x3 x4 xs0 : Int} (hb1 : xs0 = 0 ∨ xs0 = 1) : Ev d mX11_takeRow (55, [some (vR (some (21, 0, a0))), some (vI x1), some (vI x2), some (vI x3), some (vI x4), none], [vI xs0], (I, S)) (.inl (some (vI xs0)), (I, S)) :=
  s_retz rfl rfl hb1
theorem b_X11_spotCharge_0 {d : Nat} {r : PO × PM} {I : Nat → Nat → Int} {S : PS} {a0 p1 p2 q2 : Nat} {x1 : Int} {I1 : Nat → Nat → Int} {S1 : PS} (hr1 : S.1 a0 2 = some (11, 0, p1)) (hr2 : S.1 a0 11 = some (0, q2, p2)) (c : Ca d mX0_rowOf [vR (some (11, 0, p1)), vI x1, vR (some (0, q2, p2))] (I, S) (.inl none) (I1, S1)) (k : Ev (d + 1) mX11_spotCharge (12, [some (vR (some (21, 0, a0))), some (vI x1)], [], (I1, S1)) r) : Ev (d + 1) mX11_spotCharge (0, [some (vR (some (21, 0, a0))), some (vI x1)], [], (I, S)) r :=
  s_aload_n rfl rfl rfl <|
  s_getR rfl rfl rfl hr1 <|
  s_iload_n rfl rfl rfl <|
  s_aload_n rfl rfl rfl <|
  s_getR rfl rfl rfl hr2 <|
  s_cvV rfl rfl rfl rfl rfl c k
theorem b_X11_spotCharge_12 {d : Nat} {r : PO × PM} {I : Nat → Nat → Int} {S : PS} {a0 p1 p2 p3 q3 p5 q5 p6 p7 q7 : Nat} {x1 z : Int} {I1 : Nat → Nat → Int} {S1 : PS} (hr1 : S.1 a0 2 = some (11, 0, p1)) (hr2 : S.1 p1 2 = some (17, 0, p2)) (hr3 : S.1 p1 3 = some (0, q3, p3)) (hi4 : 0 ≤ x1 ∧ x1 < (q3 : Nat)) (hr5 : S.1 a0 11 = some (0, q5, p5)) (hr6 : S.1 a0 6 = some (19, 0, p6)) (hr7 : S.1 p6 1 = some (0, q7, p7)) (c : Ca d mX7_behind [vR (some (17, 0, p2)), vI (I p3 x1.toNat), vR (some (0, q5, p5)), vR (some (0, q7, p7))] (I, S) (.inl (some (vI z))) (I1, S1)) (k : Ev (d + 1) mX11_spotCharge (42, [some (vR (some (21, 0, a0))), some (vI x1)], [vI z], (I1, S1)) r) : Ev (d + 1) mX11_spotCharge (12, [some (vR (some (21, 0, a0))), some (vI x1)], [], (I, S)) r :=
  s_aload_n rfl rfl rfl <|
  s_getR rfl rfl rfl hr1 <|
  s_getR rfl rfl rfl hr2 <|
  s_aload_n rfl rfl rfl <|
  s_getR rfl rfl rfl hr1 <|
  s_getR rfl rfl rfl hr3 <|
  s_iload_n rfl rfl rfl <|
  s_iald rfl rfl hi4 <|
  s_aload_n rfl rfl rfl <|
  s_getR rfl rfl rfl hr5 <|
  s_aload_n rfl rfl rfl <|
  s_getR rfl rfl rfl hr6 <|
  s_getR rfl rfl rfl hr7 <|
  s_cvI rfl rfl rfl rfl rfl c k
theorem b_X11_spotCharge_42 {d : Nat} {I : Nat → Nat → Int} {S : PS} {a0 : Nat} {x1 xs0 : Int} : Ev d mX11_spotCharge (42, [some (vR (some (21, 0, a0))), some (vI x1)], [vI xs0], (I, S)) (.inl (some (vI xs0)), (I, S)) :=
  s_ret rfl rfl
theorem b_X11_piecesHeldBy_0 {d : Nat} {r : PO × PM} {I : Nat → Nat → Int} {S : PS} {a0 p1 p2 q2 : Nat} {x1 : Int} {I1 : Nat → Nat → Int} {S1 : PS} (hr1 : S.1 a0 2 = some (11, 0, p1)) (hr2 : S.1 a0 11 = some (0, q2, p2)) (c : Ca d mX0_rowOf [vR (some (11, 0, p1)), vI x1, vR (some (0, q2, p2))] (I, S) (.inl none) (I1, S1)) (k : Ev (d + 1) mX11_piecesHeldBy (12, [some (vR (some (21, 0, a0))), some (vI x1)], [], (I1, S1)) r) : Ev (d + 1) mX11_piecesHeldBy (0, [some (vR (some (21, 0, a0))), some (vI x1)], [], (I, S)) r :=
  s_aload_n rfl rfl rfl <|
  s_getR rfl rfl rfl hr1 <|
  s_iload_n rfl rfl rfl <|
  s_aload_n rfl rfl rfl <|
  s_getR rfl rfl rfl hr2 <|
  s_cvV rfl rfl rfl rfl rfl c k
theorem b_X11_piecesHeldBy_12 {d : Nat} {r : PO × PM} {I : Nat → Nat → Int} {S : PS} {a0 p1 p2 q2 p4 q4 : Nat} {x1 z : Int} {I1 : Nat → Nat → Int} {S1 : PS} (hr1 : S.1 a0 2 = some (11, 0, p1)) (hr2 : S.1 p1 3 = some (0, q2, p2)) (hi3 : 0 ≤ x1 ∧ x1 < (q2 : Nat)) (hr4 : S.1 a0 11 = some (0, q4, p4)) (c : Ca d mX0_heldPieces [vR (some (11, 0, p1)), vI (I p2 x1.toNat), vR (some (0, q4, p4))] (I, S) (.inl (some (vI z))) (I1, S1)) (k : Ev (d + 1) mX11_piecesHeldBy (32, [some (vR (some (21, 0, a0))), some (vI x1)], [vI z], (I1, S1)) r) : Ev (d + 1) mX11_piecesHeldBy (12, [some (vR (some (21, 0, a0))), some (vI x1)], [], (I, S)) r :=
  s_aload_n rfl rfl rfl <|
  s_getR rfl rfl rfl hr1 <|
  s_aload_n rfl rfl rfl <|
  s_getR rfl rfl rfl hr1 <|
  s_getR rfl rfl rfl hr2 <|
  s_iload_n rfl rfl rfl <|
  s_iald rfl rfl hi3 <|
  s_aload_n rfl rfl rfl <|
  s_getR rfl rfl rfl hr4 <|
  s_cvI rfl rfl rfl rfl rfl c k
theorem b_X11_piecesHeldBy_32 {d : Nat} {I : Nat → Nat → Int} {S : PS} {a0 : Nat} {x1 xs0 : Int} : Ev d mX11_piecesHeldBy (32, [some (vR (some (21, 0, a0))), some (vI x1)], [vI xs0], (I, S)) (.inl (some (vI xs0)), (I, S)) :=
  s_ret rfl rfl
theorem b_X11_chargeAhead_0 {d : Nat} {r : PO × PM} {I : Nat → Nat → Int} {S : PS} {a0 : Nat} (k : Ev d mX11_chargeAhead (4, [some (vR (some (21, 0, a0))), some (vI 0), some (vI 0)], [], (I, S)) r) : Ev d mX11_chargeAhead (0, [some (vR (some (21, 0, a0))), none, none], [], (I, S)) r :=
  s_iconst rfl rfl <|
  s_istore_n [some (vR (some (21, 0, a0))), some (vI 0), none] rfl rfl <|
  s_iconst rfl rfl <|
  s_istore_n [some (vR (some (21, 0, a0))), some (vI 0), some (vI 0)] rfl rfl <|
  k
theorem b_X11_chargeAhead_4 {d : Nat} {r : PO × PM} {I : Nat → Nat → Int} {S : PS} {a0 p1 : Nat} {x1 x2 : Int} (hr1 : S.1 a0 2 = some (11, 0, p1)) (kt : I p1 6 ≤ x2 → Ev d mX11_chargeAhead (36, [some (vR (some (21, 0, a0))), some (vI x1), some (vI x2)], [], (I, S)) r) (kf : x2 < I p1 6 → Ev d mX11_chargeAhead (15, [some (vR (some (21, 0, a0))), some (vI x1), some (vI x2)], [], (I, S)) r) : Ev d mX11_chargeAhead (4, [some (vR (some (21, 0, a0))), some (vI x1), some (vI x2)], [], (I, S)) r :=
  s_iload_n rfl rfl rfl <|
  s_aload_n rfl rfl rfl <|
  s_getR rfl rfl rfl hr1 <|
  s_getI rfl rfl rfl <|
  s_icmp_ge 36 rfl rfl kt kf
theorem b_X11_chargeAhead_15 {d : Nat} {r : PO × PM} {I : Nat → Nat → Int} {S : PS} {a0 p1 p2 q2 : Nat} {x1 x2 z : Int} {I1 : Nat → Nat → Int} {S1 : PS} (hr1 : S.1 a0 2 = some (11, 0, p1)) (hr2 : S.1 p1 3 = some (0, q2, p2)) (hi3 : 0 ≤ x2 ∧ x2 < (q2 : Nat)) (c : Ca d mX7_ahead [vI (I p2 x2.toNat)] (I, S) (.inl (some (vI z))) (I1, S1)) (k : Ev (d + 1) mX11_chargeAhead (28, [some (vR (some (21, 0, a0))), some (vI x1), some (vI x2)], [vI z, vI x1], (I1, S1)) r) : Ev (d + 1) mX11_chargeAhead (15, [some (vR (some (21, 0, a0))), some (vI x1), some (vI x2)], [], (I, S)) r :=
  s_iload_n rfl rfl rfl <|
  s_aload_n rfl rfl rfl <|
  s_getR rfl rfl rfl hr1 <|
  s_getR rfl rfl rfl hr2 <|
  s_iload_n rfl rfl rfl <|
  s_iald rfl rfl hi3 <|
  s_csI rfl rfl rfl rfl rfl rfl c k
theorem b_X11_chargeAhead_28 {d : Nat} {r : PO × PM} {I : Nat → Nat → Int} {S : PS} {a0 : Nat} {x1 x2 xs0 xs1 : Int} (ho1 : -2147483648 ≤ xs0 + xs1 ∧ xs0 + xs1 ≤ 2147483647) (ho2 : -2147483648 ≤ x2 + 1 ∧ x2 + 1 ≤ 2147483647) (k : Ev d mX11_chargeAhead (4, [some (vR (some (21, 0, a0))), some (vI (xs0 + xs1)), some (vI (x2 + 1))], [], (I, S)) r) : Ev d mX11_chargeAhead (28, [some (vR (some (21, 0, a0))), some (vI x1), some (vI x2)], [vI xs1, vI xs0], (I, S)) r :=
  s_iaddp rfl ho1 <|
  s_istore_n [some (vR (some (21, 0, a0))), some (vI (xs0 + xs1)), some (vI x2)] rfl rfl <|
  s_iincp [some (vR (some (21, 0, a0))), some (vI (xs0 + xs1)), some (vI (x2 + 1))] rfl rfl ho2 rfl <|
  s_goto 4 rfl rfl k
theorem b_X11_chargeAhead_36 {d : Nat} {I : Nat → Nat → Int} {S : PS} {a0 : Nat} {x1 x2 : Int} : Ev d mX11_chargeAhead (36, [some (vR (some (21, 0, a0))), some (vI x1), some (vI x2)], [], (I, S)) (.inl (some (vI x1)), (I, S)) :=
  s_iload_n rfl rfl rfl <|
  s_ret rfl rfl
theorem b_X11_chargeBehind_0 {d : Nat} {r : PO × PM} {I : Nat → Nat → Int} {S : PS} {a0 : Nat} (k : Ev d mX11_chargeBehind (4, [some (vR (some (21, 0, a0))), some (vI 0), some (vI 0)], [], (I, S)) r) : Ev d mX11_chargeBehind (0, [some (vR (some (21, 0, a0))), none, none], [], (I, S)) r :=
  s_iconst rfl rfl <|
  s_istore_n [some (vR (some (21, 0, a0))), some (vI 0), none] rfl rfl <|
  s_iconst rfl rfl <|
  s_istore_n [some (vR (some (21, 0, a0))), some (vI 0), some (vI 0)] rfl rfl <|
  k
theorem b_X11_chargeBehind_4 {d : Nat} {r : PO × PM} {I : Nat → Nat → Int} {S : PS} {a0 p1 : Nat} {x1 x2 : Int} (hr1 : S.1 a0 2 = some (11, 0, p1)) (kt : I p1 6 ≤ x2 → Ev d mX11_chargeBehind (29, [some (vR (some (21, 0, a0))), some (vI x1), some (vI x2)], [], (I, S)) r) (kf : x2 < I p1 6 → Ev d mX11_chargeBehind (15, [some (vR (some (21, 0, a0))), some (vI x1), some (vI x2)], [], (I, S)) r) : Ev d mX11_chargeBehind (4, [some (vR (some (21, 0, a0))), some (vI x1), some (vI x2)], [], (I, S)) r :=
  s_iload_n rfl rfl rfl <|
  s_aload_n rfl rfl rfl <|
  s_getR rfl rfl rfl hr1 <|
  s_getI rfl rfl rfl <|
  s_icmp_ge 29 rfl rfl kt kf
theorem b_X11_chargeBehind_15 {d : Nat} {r : PO × PM} {I : Nat → Nat → Int} {S : PS} {a0 : Nat} {x1 x2 z : Int} {I1 : Nat → Nat → Int} {S1 : PS} (c : Ca d mX11_spotCharge [vR (some (21, 0, a0)), vI x2] (I, S) (.inl (some (vI z))) (I1, S1)) (k : Ev (d + 1) mX11_chargeBehind (21, [some (vR (some (21, 0, a0))), some (vI x1), some (vI x2)], [vI z, vI x1], (I1, S1)) r) : Ev (d + 1) mX11_chargeBehind (15, [some (vR (some (21, 0, a0))), some (vI x1), some (vI x2)], [], (I, S)) r :=
  s_iload_n rfl rfl rfl <|
  s_aload_n rfl rfl rfl <|
  s_iload_n rfl rfl rfl <|
  s_cvI rfl rfl rfl rfl rfl c k
theorem b_X11_chargeBehind_21 {d : Nat} {r : PO × PM} {I : Nat → Nat → Int} {S : PS} {a0 : Nat} {x1 x2 xs0 xs1 : Int} (ho1 : -2147483648 ≤ xs0 + xs1 ∧ xs0 + xs1 ≤ 2147483647) (ho2 : -2147483648 ≤ x2 + 1 ∧ x2 + 1 ≤ 2147483647) (k : Ev d mX11_chargeBehind (4, [some (vR (some (21, 0, a0))), some (vI (xs0 + xs1)), some (vI (x2 + 1))], [], (I, S)) r) : Ev d mX11_chargeBehind (21, [some (vR (some (21, 0, a0))), some (vI x1), some (vI x2)], [vI xs1, vI xs0], (I, S)) r :=
  s_iaddp rfl ho1 <|
  s_istore_n [some (vR (some (21, 0, a0))), some (vI (xs0 + xs1)), some (vI x2)] rfl rfl <|
  s_iincp [some (vR (some (21, 0, a0))), some (vI (xs0 + xs1)), some (vI (x2 + 1))] rfl rfl ho2 rfl <|
  s_goto 4 rfl rfl k
theorem b_X11_chargeBehind_29 {d : Nat} {I : Nat → Nat → Int} {S : PS} {a0 : Nat} {x1 x2 : Int} : Ev d mX11_chargeBehind (29, [some (vR (some (21, 0, a0))), some (vI x1), some (vI x2)], [], (I, S)) (.inl (some (vI x1)), (I, S)) :=
  s_iload_n rfl rfl rfl <|
  s_ret rfl rfl
theorem b_X11_positiveSpots_0 {d : Nat} {r : PO × PM} {I : Nat → Nat → Int} {S : PS} {a0 : Nat} (k : Ev d mX11_positiveSpots (4, [some (vR (some (21, 0, a0))), some (vI 0), some (vI 0)], [], (I, S)) r) : Ev d mX11_positiveSpots (0, [some (vR (some (21, 0, a0))), none, none], [], (I, S)) r :=
  s_iconst rfl rfl <|
  s_istore_n [some (vR (some (21, 0, a0))), some (vI 0), none] rfl rfl <|
  s_iconst rfl rfl <|
  s_istore_n [some (vR (some (21, 0, a0))), some (vI 0), some (vI 0)] rfl rfl <|
  k
theorem b_X11_positiveSpots_4 {d : Nat} {r : PO × PM} {I : Nat → Nat → Int} {S : PS} {a0 p1 : Nat} {x1 x2 : Int} (hr1 : S.1 a0 2 = some (11, 0, p1)) (kt : I p1 6 ≤ x2 → Ev d mX11_positiveSpots (35, [some (vR (some (21, 0, a0))), some (vI x1), some (vI x2)], [], (I, S)) r) (kf : x2 < I p1 6 → Ev d mX11_positiveSpots (15, [some (vR (some (21, 0, a0))), some (vI x1), some (vI x2)], [], (I, S)) r) : Ev d mX11_positiveSpots (4, [some (vR (some (21, 0, a0))), some (vI x1), some (vI x2)], [], (I, S)) r :=
  s_iload_n rfl rfl rfl <|
  s_aload_n rfl rfl rfl <|
  s_getR rfl rfl rfl hr1 <|
  s_getI rfl rfl rfl <|
  s_icmp_ge 35 rfl rfl kt kf
theorem b_X11_positiveSpots_15 {d : Nat} {r : PO × PM} {I : Nat → Nat → Int} {S : PS} {a0 : Nat} {x1 x2 z : Int} {I1 : Nat → Nat → Int} {S1 : PS} (c : Ca d mX11_spotCharge [vR (some (21, 0, a0)), vI x2] (I, S) (.inl (some (vI z))) (I1, S1)) (k : Ev (d + 1) mX11_positiveSpots (20, [some (vR (some (21, 0, a0))), some (vI x1), some (vI x2)], [vI z], (I1, S1)) r) : Ev (d + 1) mX11_positiveSpots (15, [some (vR (some (21, 0, a0))), some (vI x1), some (vI x2)], [], (I, S)) r :=
  s_aload_n rfl rfl rfl <|
  s_iload_n rfl rfl rfl <|
  s_cvI rfl rfl rfl rfl rfl c k
theorem b_X11_positiveSpots_20 {d : Nat} {r : PO × PM} {I : Nat → Nat → Int} {S : PS} {a0 : Nat} {x1 x2 xs0 : Int} (kt : xs0 ≤ 0 → Ev d mX11_positiveSpots (29, [some (vR (some (21, 0, a0))), some (vI x1), some (vI x2)], [], (I, S)) r) (kf : 0 < xs0 → Ev d mX11_positiveSpots (23, [some (vR (some (21, 0, a0))), some (vI x1), some (vI x2)], [], (I, S)) r) : Ev d mX11_positiveSpots (20, [some (vR (some (21, 0, a0))), some (vI x1), some (vI x2)], [vI xs0], (I, S)) r :=
  s_if_le 29 rfl rfl kt kf
theorem b_X11_positiveSpots_23 {d : Nat} {r : PO × PM} {I : Nat → Nat → Int} {S : PS} {a0 : Nat} {x1 x2 : Int} (k : Ev d mX11_positiveSpots (29, [some (vR (some (21, 0, a0))), some (vI (p_or x1 (p_shl 1 x2))), some (vI x2)], [], (I, S)) r) : Ev d mX11_positiveSpots (23, [some (vR (some (21, 0, a0))), some (vI x1), some (vI x2)], [], (I, S)) r :=
  s_iload_n rfl rfl rfl <|
  s_iconst rfl rfl <|
  s_iload_n rfl rfl rfl <|
  s_ishl rfl <|
  s_ior rfl <|
  s_istore_n [some (vR (some (21, 0, a0))), some (vI (p_or x1 (p_shl 1 x2))), some (vI x2)] rfl rfl <|
  k
theorem b_X11_positiveSpots_29 {d : Nat} {r : PO × PM} {I : Nat → Nat → Int} {S : PS} {a0 : Nat} {x1 x2 : Int} (ho1 : -2147483648 ≤ x2 + 1 ∧ x2 + 1 ≤ 2147483647) (k : Ev d mX11_positiveSpots (4, [some (vR (some (21, 0, a0))), some (vI x1), some (vI (x2 + 1))], [], (I, S)) r) : Ev d mX11_positiveSpots (29, [some (vR (some (21, 0, a0))), some (vI x1), some (vI x2)], [], (I, S)) r :=
  s_iincp [some (vR (some (21, 0, a0))), some (vI x1), some (vI (x2 + 1))] rfl rfl ho1 rfl <|
  s_goto 4 rfl rfl k
theorem b_X11_positiveSpots_35 {d : Nat} {I : Nat → Nat → Int} {S : PS} {a0 : Nat} {x1 x2 : Int} : Ev d mX11_positiveSpots (35, [some (vR (some (21, 0, a0))), some (vI x1), some (vI x2)], [], (I, S)) (.inl (some (vI x1)), (I, S)) :=
  s_iload_n rfl rfl rfl <|
  s_ret rfl rfl
theorem b_X11_openSpots_0 {d : Nat} {r : PO × PM} {I : Nat → Nat → Int} {S : PS} {a0 : Nat} {x1 x2 : Int} (k : Ev d mX11_openSpots (5, [some (vR (some (21, 0, a0))), some (vI x1), some (vI x2), some (vI x1), some (vI 0)], [], (I, S)) r) : Ev d mX11_openSpots (0, [some (vR (some (21, 0, a0))), some (vI x1), some (vI x2), none, none], [], (I, S)) r :=
  s_iload_n rfl rfl rfl <|
  s_istore_n [some (vR (some (21, 0, a0))), some (vI x1), some (vI x2), some (vI x1), none] rfl rfl <|
  s_iconst rfl rfl <|
  s_istore [some (vR (some (21, 0, a0))), some (vI x1), some (vI x2), some (vI x1), some (vI 0)] rfl rfl <|
  k
theorem b_X11_openSpots_5 {d : Nat} {r : PO × PM} {I : Nat → Nat → Int} {S : PS} {a0 p1 : Nat} {x1 x2 x3 x4 : Int} (hr1 : S.1 a0 2 = some (11, 0, p1)) (kt : I p1 6 ≤ x4 → Ev d mX11_openSpots (43, [some (vR (some (21, 0, a0))), some (vI x1), some (vI x2), some (vI x3), some (vI x4)], [], (I, S)) r) (kf : x4 < I p1 6 → Ev d mX11_openSpots (17, [some (vR (some (21, 0, a0))), some (vI x1), some (vI x2), some (vI x3), some (vI x4)], [], (I, S)) r) : Ev d mX11_openSpots (5, [some (vR (some (21, 0, a0))), some (vI x1), some (vI x2), some (vI x3), some (vI x4)], [], (I, S)) r :=
  s_iload rfl rfl rfl <|
  s_aload_n rfl rfl rfl <|
  s_getR rfl rfl rfl hr1 <|
  s_getI rfl rfl rfl <|
  s_icmp_ge 43 rfl rfl kt kf
theorem b_X11_openSpots_17 {d : Nat} {r : PO × PM} {I : Nat → Nat → Int} {S : PS} {a0 : Nat} {x1 x2 x3 x4 z : Int} {I1 : Nat → Nat → Int} {S1 : PS} (c : Ca d mX11_piecesHeldBy [vR (some (21, 0, a0)), vI x4] (I, S) (.inl (some (vI z))) (I1, S1)) (k : Ev (d + 1) mX11_openSpots (23, [some (vR (some (21, 0, a0))), some (vI x1), some (vI x2), some (vI x3), some (vI x4)], [vI z], (I1, S1)) r) : Ev (d + 1) mX11_openSpots (17, [some (vR (some (21, 0, a0))), some (vI x1), some (vI x2), some (vI x3), some (vI x4)], [], (I, S)) r :=
  s_aload_n rfl rfl rfl <|
  s_iload rfl rfl rfl <|
  s_cvI rfl rfl rfl rfl rfl c k
theorem b_X11_openSpots_23 {d : Nat} {r : PO × PM} {I : Nat → Nat → Int} {S : PS} {a0 : Nat} {x1 x2 x3 x4 xs0 : Int} (kt : p_and xs0 x2 = 0 → Ev d mX11_openSpots (37, [some (vR (some (21, 0, a0))), some (vI x1), some (vI x2), some (vI x3), some (vI x4)], [], (I, S)) r) (kf : p_and xs0 x2 ≠ 0 → Ev d mX11_openSpots (28, [some (vR (some (21, 0, a0))), some (vI x1), some (vI x2), some (vI x3), some (vI x4)], [], (I, S)) r) : Ev d mX11_openSpots (23, [some (vR (some (21, 0, a0))), some (vI x1), some (vI x2), some (vI x3), some (vI x4)], [vI xs0], (I, S)) r :=
  s_iload_n rfl rfl rfl <|
  s_iand rfl <|
  s_if_eq 37 rfl rfl kt kf
theorem b_X11_openSpots_28 {d : Nat} {r : PO × PM} {I : Nat → Nat → Int} {S : PS} {a0 : Nat} {x1 x2 x3 x4 : Int} (k : Ev d mX11_openSpots (37, [some (vR (some (21, 0, a0))), some (vI x1), some (vI x2), some (vI (p_and x3 (p_xor (p_shl 1 x4) (-1)))), some (vI x4)], [], (I, S)) r) : Ev d mX11_openSpots (28, [some (vR (some (21, 0, a0))), some (vI x1), some (vI x2), some (vI x3), some (vI x4)], [], (I, S)) r :=
  s_iload_n rfl rfl rfl <|
  s_iconst rfl rfl <|
  s_iload rfl rfl rfl <|
  s_ishl rfl <|
  s_iconst rfl rfl <|
  s_ixor rfl <|
  s_iand rfl <|
  s_istore_n [some (vR (some (21, 0, a0))), some (vI x1), some (vI x2), some (vI (p_and x3 (p_xor (p_shl 1 x4) (-1)))), some (vI x4)] rfl rfl <|
  k
theorem b_X11_openSpots_37 {d : Nat} {r : PO × PM} {I : Nat → Nat → Int} {S : PS} {a0 : Nat} {x1 x2 x3 x4 : Int} (ho1 : -2147483648 ≤ x4 + 1 ∧ x4 + 1 ≤ 2147483647) (k : Ev d mX11_openSpots (5, [some (vR (some (21, 0, a0))), some (vI x1), some (vI x2), some (vI x3), some (vI (x4 + 1))], [], (I, S)) r) : Ev d mX11_openSpots (37, [some (vR (some (21, 0, a0))), some (vI x1), some (vI x2), some (vI x3), some (vI x4)], [], (I, S)) r :=
  s_iincp [some (vR (some (21, 0, a0))), some (vI x1), some (vI x2), some (vI x3), some (vI (x4 + 1))] rfl rfl ho1 rfl <|
  s_goto 5 rfl rfl k
theorem b_X11_openSpots_43 {d : Nat} {I : Nat → Nat → Int} {S : PS} {a0 : Nat} {x1 x2 x3 x4 : Int} : Ev d mX11_openSpots (43, [some (vR (some (21, 0, a0))), some (vI x1), some (vI x2), some (vI x3), some (vI x4)], [], (I, S)) (.inl (some (vI x3)), (I, S)) :=
  s_iload_n rfl rfl rfl <|
  s_ret rfl rfl
theorem b_X11_findLacks_0 {d : Nat} {r : PO × PM} {I : Nat → Nat → Int} {S : PS} {a0 : Nat} (k : Ev d mX11_findLacks (2, [some (vR (some (21, 0, a0))), some (vI 0)], [], (I, S)) r) : Ev d mX11_findLacks (0, [some (vR (some (21, 0, a0))), none], [], (I, S)) r :=
  s_iconst rfl rfl <|
  s_istore_n [some (vR (some (21, 0, a0))), some (vI 0)] rfl rfl <|
  k
theorem b_X11_findLacks_2 {d : Nat} {r : PO × PM} {I : Nat → Nat → Int} {S : PS} {a0 p1 : Nat} {x1 : Int} (hr1 : S.1 a0 6 = some (19, 0, p1)) (kt : I p1 6 ≤ x1 → Ev d mX11_findLacks (48, [some (vR (some (21, 0, a0))), some (vI x1)], [], (I, S)) r) (kf : x1 < I p1 6 → Ev d mX11_findLacks (13, [some (vR (some (21, 0, a0))), some (vI x1)], [], (I, S)) r) : Ev d mX11_findLacks (2, [some (vR (some (21, 0, a0))), some (vI x1)], [], (I, S)) r :=
  s_iload_n rfl rfl rfl <|
  s_aload_n rfl rfl rfl <|
  s_getR rfl rfl rfl hr1 <|
  s_getI rfl rfl rfl <|
  s_icmp_ge 48 rfl rfl kt kf
theorem b_X11_findLacks_13 {d : Nat} {r : PO × PM} {I : Nat → Nat → Int} {S : PS} {a0 p1 q1 p2 p3 q3 p5 q5 : Nat} {x1 z : Int} {I1 : Nat → Nat → Int} {S1 : PS} (hr1 : S.1 a0 12 = some (0, q1, p1)) (hr2 : S.1 a0 6 = some (19, 0, p2)) (hr3 : S.1 p2 8 = some (0, q3, p3)) (hi4 : 0 ≤ x1 ∧ x1 < (q3 : Nat)) (hr5 : S.1 p2 7 = some (0, q5, p5)) (hi6 : 0 ≤ x1 ∧ x1 < (q5 : Nat)) (c : Ca d mX11_spotCharge [vR (some (21, 0, a0)), vI (I p5 x1.toNat)] (I, S) (.inl (some (vI z))) (I1, S1)) (k : Ev (d + 1) mX11_findLacks (40, [some (vR (some (21, 0, a0))), some (vI x1)], [vI z, vI (I p3 x1.toNat), vI x1, vR (some (0, q1, p1))], (I1, S1)) r) : Ev (d + 1) mX11_findLacks (13, [some (vR (some (21, 0, a0))), some (vI x1)], [], (I, S)) r :=
  s_aload_n rfl rfl rfl <|
  s_getR rfl rfl rfl hr1 <|
  s_iload_n rfl rfl rfl <|
  s_aload_n rfl rfl rfl <|
  s_getR rfl rfl rfl hr2 <|
  s_getR rfl rfl rfl hr3 <|
  s_iload_n rfl rfl rfl <|
  s_iald rfl rfl hi4 <|
  s_aload_n rfl rfl rfl <|
  s_aload_n rfl rfl rfl <|
  s_getR rfl rfl rfl hr2 <|
  s_getR rfl rfl rfl hr5 <|
  s_iload_n rfl rfl rfl <|
  s_iald rfl rfl hi6 <|
  s_cvI rfl rfl rfl rfl rfl c k
theorem b_X11_findLacks_40 {d : Nat} {r : PO × PM} {I : Nat → Nat → Int} {S : PS} {a0 ns0 as0 : Nat} {x1 xs1 xs2 xs3 : Int} (ho1 : -2147483648 ≤ xs2 - xs3 ∧ xs2 - xs3 ≤ 2147483647) (hi2 : 0 ≤ xs1 ∧ xs1 < (ns0 : Nat)) (ho3 : -2147483648 ≤ x1 + 1 ∧ x1 + 1 ≤ 2147483647) (k : Ev d mX11_findLacks (2, [some (vR (some (21, 0, a0))), some (vI (x1 + 1))], [], ((up2 I as0 (xs1.toNat) (xs2 - xs3)), S)) r) : Ev d mX11_findLacks (40, [some (vR (some (21, 0, a0))), some (vI x1)], [vI xs3, vI xs2, vI xs1, vR (some (0, ns0, as0))], (I, S)) r :=
  s_isubp rfl ho1 <|
  s_iast rfl hi2 <|
  s_iincp [some (vR (some (21, 0, a0))), some (vI (x1 + 1))] rfl rfl ho3 rfl <|
  s_goto 2 rfl rfl k
theorem b_X11_findLacks_48 {d : Nat} {I : Nat → Nat → Int} {S : PS} {a0 : Nat} {x1 : Int} : Ev d mX11_findLacks (48, [some (vR (some (21, 0, a0))), some (vI x1)], [], (I, S)) (.inl none, (I, S)) :=
  s_vret rfl rfl
theorem b_X11_findNets_0 {d : Nat} {r : PO × PM} {I : Nat → Nat → Int} {S : PS} {a0 : Nat} {x1 : Int} (k : Ev d mX11_findNets (2, [some (vR (some (21, 0, a0))), some (vI x1), some (vI 0), none], [], (I, S)) r) : Ev d mX11_findNets (0, [some (vR (some (21, 0, a0))), some (vI x1), none, none], [], (I, S)) r :=
  s_iconst rfl rfl <|
  s_istore_n [some (vR (some (21, 0, a0))), some (vI x1), some (vI 0), none] rfl rfl <|
  k
theorem b_X11_findNets_2 {d : Nat} {r : PO × PM} {I : Nat → Nat → Int} {S : PS} {a0 p1 : Nat} {x1 x2 : Int} (hr1 : S.1 a0 6 = some (19, 0, p1)) (kt : I p1 6 ≤ x2 → Ev d mX11_findNets (71, [some (vR (some (21, 0, a0))), some (vI x1), some (vI x2), none], [], (I, S)) r) (kf : x2 < I p1 6 → Ev d mX11_findNets (13, [some (vR (some (21, 0, a0))), some (vI x1), some (vI x2), none], [], (I, S)) r) : Ev d mX11_findNets (2, [some (vR (some (21, 0, a0))), some (vI x1), some (vI x2), none], [], (I, S)) r :=
  s_iload_n rfl rfl rfl <|
  s_aload_n rfl rfl rfl <|
  s_getR rfl rfl rfl hr1 <|
  s_getI rfl rfl rfl <|
  s_icmp_ge 71 rfl rfl kt kf
theorem b_X11_findNets_13 {d : Nat} {r : PO × PM} {I : Nat → Nat → Int} {S : PS} {a0 p1 p2 q2 p4 p5 q5 : Nat} {x1 x2 : Int} {I1 : Nat → Nat → Int} {S1 : PS} (hr1 : S.1 a0 6 = some (19, 0, p1)) (hr2 : S.1 p1 7 = some (0, q2, p2)) (hi3 : 0 ≤ x2 ∧ x2 < (q2 : Nat)) (hr4 : S.1 a0 2 = some (11, 0, p4)) (hr5 : S.1 a0 11 = some (0, q5, p5)) (c : Ca d mX0_rowOf [vR (some (11, 0, p4)), vI (I p2 x2.toNat), vR (some (0, q5, p5))] (I, S) (.inl none) (I1, S1)) (k : Ev (d + 1) mX11_findNets (35, [some (vR (some (21, 0, a0))), some (vI x1), some (vI x2), some (vI (I p2 x2.toNat))], [], (I1, S1)) r) : Ev (d + 1) mX11_findNets (13, [some (vR (some (21, 0, a0))), some (vI x1), some (vI x2), none], [], (I, S)) r :=
  s_aload_n rfl rfl rfl <|
  s_getR rfl rfl rfl hr1 <|
  s_getR rfl rfl rfl hr2 <|
  s_iload_n rfl rfl rfl <|
  s_iald rfl rfl hi3 <|
  s_istore_n [some (vR (some (21, 0, a0))), some (vI x1), some (vI x2), some (vI (I p2 x2.toNat))] rfl rfl <|
  s_aload_n rfl rfl rfl <|
  s_getR rfl rfl rfl hr4 <|
  s_iload_n rfl rfl rfl <|
  s_aload_n rfl rfl rfl <|
  s_getR rfl rfl rfl hr5 <|
  s_cvV rfl rfl rfl rfl rfl c k
theorem b_X11_findNets_35 {d : Nat} {r : PO × PM} {I : Nat → Nat → Int} {S : PS} {a0 p1 q1 p2 p3 p4 q4 p6 q6 : Nat} {x1 x2 x3 z : Int} {I1 : Nat → Nat → Int} {S1 : PS} (hr1 : S.1 a0 13 = some (0, q1, p1)) (hr2 : S.1 a0 2 = some (11, 0, p2)) (hr3 : S.1 p2 2 = some (17, 0, p3)) (hr4 : S.1 p2 3 = some (0, q4, p4)) (hi5 : 0 ≤ x3 ∧ x3 < (q4 : Nat)) (hr6 : S.1 a0 11 = some (0, q6, p6)) (c : Ca d mX7_net [vR (some (17, 0, p3)), vI x1, vI (I p4 x3.toNat), vR (some (0, q6, p6))] (I, S) (.inl (some (vI z))) (I1, S1)) (k : Ev (d + 1) mX11_findNets (64, [some (vR (some (21, 0, a0))), some (vI x1), some (vI x2), some (vI x3)], [vI z, vI x2, vR (some (0, q1, p1))], (I1, S1)) r) : Ev (d + 1) mX11_findNets (35, [some (vR (some (21, 0, a0))), some (vI x1), some (vI x2), some (vI x3)], [], (I, S)) r :=
  s_aload_n rfl rfl rfl <|
  s_getR rfl rfl rfl hr1 <|
  s_iload_n rfl rfl rfl <|
  s_aload_n rfl rfl rfl <|
  s_getR rfl rfl rfl hr2 <|
  s_getR rfl rfl rfl hr3 <|
  s_iload_n rfl rfl rfl <|
  s_aload_n rfl rfl rfl <|
  s_getR rfl rfl rfl hr2 <|
  s_getR rfl rfl rfl hr4 <|
  s_iload_n rfl rfl rfl <|
  s_iald rfl rfl hi5 <|
  s_aload_n rfl rfl rfl <|
  s_getR rfl rfl rfl hr6 <|
  s_cvI rfl rfl rfl rfl rfl c k
theorem b_X11_findNets_64 {d : Nat} {r : PO × PM} {I : Nat → Nat → Int} {S : PS} {a0 ns0 as0 : Nat} {x1 x2 x3 xs1 xs2 : Int} (hi1 : 0 ≤ xs1 ∧ xs1 < (ns0 : Nat)) (ho2 : -2147483648 ≤ x2 + 1 ∧ x2 + 1 ≤ 2147483647) (k : Ev d mX11_findNets (2, [some (vR (some (21, 0, a0))), some (vI x1), some (vI (x2 + 1)), none], [], ((up2 I as0 (xs1.toNat) xs2), S)) r) : Ev d mX11_findNets (64, [some (vR (some (21, 0, a0))), some (vI x1), some (vI x2), some (vI x3)], [vI xs2, vI xs1, vR (some (0, ns0, as0))], (I, S)) r :=
  s_iast rfl hi1 <|
  s_iincp [some (vR (some (21, 0, a0))), some (vI x1), some (vI (x2 + 1)), some (vI x3)] rfl rfl ho2 rfl <|
  s_goto 2 rfl rfl (ev_forget [false, false, false, true] rfl k)
theorem b_X11_findNets_71 {d : Nat} {I : Nat → Nat → Int} {S : PS} {a0 : Nat} {x1 x2 : Int} : Ev d mX11_findNets (71, [some (vR (some (21, 0, a0))), some (vI x1), some (vI x2), none], [], (I, S)) (.inl none, (I, S)) :=
  s_vret rfl rfl
theorem b_X11_mendsLacks_0 {d : Nat} {r : PO × PM} {I : Nat → Nat → Int} {S : PS} {a0 : Nat} {x1 : Int} (k : Ev d mX11_mendsLacks (2, [some (vR (some (21, 0, a0))), some (vI x1), some (vI 0)], [], (I, S)) r) : Ev d mX11_mendsLacks (0, [some (vR (some (21, 0, a0))), some (vI x1), none], [], (I, S)) r :=
  s_iconst rfl rfl <|
  s_istore_n [some (vR (some (21, 0, a0))), some (vI x1), some (vI 0)] rfl rfl <|
  k
theorem b_X11_mendsLacks_2 {d : Nat} {r : PO × PM} {I : Nat → Nat → Int} {S : PS} {a0 p1 : Nat} {x1 x2 : Int} (hr1 : S.1 a0 6 = some (19, 0, p1)) (kt : I p1 6 ≤ x2 → Ev d mX11_mendsLacks (38, [some (vR (some (21, 0, a0))), some (vI x1), some (vI x2)], [], (I, S)) r) (kf : x2 < I p1 6 → Ev d mX11_mendsLacks (13, [some (vR (some (21, 0, a0))), some (vI x1), some (vI x2)], [], (I, S)) r) : Ev d mX11_mendsLacks (2, [some (vR (some (21, 0, a0))), some (vI x1), some (vI x2)], [], (I, S)) r :=
  s_iload_n rfl rfl rfl <|
  s_aload_n rfl rfl rfl <|
  s_getR rfl rfl rfl hr1 <|
  s_getI rfl rfl rfl <|
  s_icmp_ge 38 rfl rfl kt kf
theorem b_X11_mendsLacks_13 {d : Nat} {r : PO × PM} {I : Nat → Nat → Int} {S : PS} {a0 p1 q1 p4 q4 : Nat} {x1 x2 : Int} (hr1 : S.1 a0 13 = some (0, q1, p1)) (hi2 : 0 ≤ x2 ∧ x2 < (q1 : Nat)) (ho3 : -2147483648 ≤ x1 * (I p1 x2.toNat) ∧ x1 * (I p1 x2.toNat) ≤ 2147483647) (hr4 : S.1 a0 12 = some (0, q4, p4)) (hi5 : 0 ≤ x2 ∧ x2 < (q4 : Nat)) (kt : x1 * (I p1 x2.toNat) = I p4 x2.toNat → Ev d mX11_mendsLacks (32, [some (vR (some (21, 0, a0))), some (vI x1), some (vI x2)], [], (I, S)) r) (kf : x1 * (I p1 x2.toNat) ≠ I p4 x2.toNat → Ev d mX11_mendsLacks (30, [some (vR (some (21, 0, a0))), some (vI x1), some (vI x2)], [], (I, S)) r) : Ev d mX11_mendsLacks (13, [some (vR (some (21, 0, a0))), some (vI x1), some (vI x2)], [], (I, S)) r :=
  s_iload_n rfl rfl rfl <|
  s_aload_n rfl rfl rfl <|
  s_getR rfl rfl rfl hr1 <|
  s_iload_n rfl rfl rfl <|
  s_iald rfl rfl hi2 <|
  s_imulp rfl ho3 <|
  s_aload_n rfl rfl rfl <|
  s_getR rfl rfl rfl hr4 <|
  s_iload_n rfl rfl rfl <|
  s_iald rfl rfl hi5 <|
  s_icmp_eq 32 rfl rfl kt kf
theorem b_X11_mendsLacks_30 {d : Nat} {I : Nat → Nat → Int} {S : PS} {a0 : Nat} {x1 x2 : Int} : Ev d mX11_mendsLacks (30, [some (vR (some (21, 0, a0))), some (vI x1), some (vI x2)], [], (I, S)) (.inl (some (vI 0)), (I, S)) :=
  s_iconst rfl rfl <|
  s_ret rfl rfl
theorem b_X11_mendsLacks_32 {d : Nat} {r : PO × PM} {I : Nat → Nat → Int} {S : PS} {a0 : Nat} {x1 x2 : Int} (ho1 : -2147483648 ≤ x2 + 1 ∧ x2 + 1 ≤ 2147483647) (k : Ev d mX11_mendsLacks (2, [some (vR (some (21, 0, a0))), some (vI x1), some (vI (x2 + 1))], [], (I, S)) r) : Ev d mX11_mendsLacks (32, [some (vR (some (21, 0, a0))), some (vI x1), some (vI x2)], [], (I, S)) r :=
  s_iincp [some (vR (some (21, 0, a0))), some (vI x1), some (vI (x2 + 1))] rfl rfl ho1 rfl <|
  s_goto 2 rfl rfl k
theorem b_X11_mendsLacks_38 {d : Nat} {I : Nat → Nat → Int} {S : PS} {a0 : Nat} {x1 x2 : Int} : Ev d mX11_mendsLacks (38, [some (vR (some (21, 0, a0))), some (vI x1), some (vI x2)], [], (I, S)) (.inl (some (vI 1)), (I, S)) :=
  s_iconst rfl rfl <|
  s_ret rfl rfl
end
