/-! ===== the law: its blocks, its small methods ===== -/
noncomputable section
section
theorem b5_L_law_0 {d : Nat} {r : PO × PM} {h : PM} {n0 a0 : Nat} {h1 : PM} (c : Ca d mX11_init [vR (some (21, 0, (m_sz h)))] (m_new h 21 0 16) (.inl none) h1) (k : Ev (d + 1) mL_law (7, [some (vR (some (5, n0, a0))), none, none, none, none, none, none], [vR (some (21, 0, (m_sz h)))], h1) r) : Ev (d + 1) mL_law (0, [some (vR (some (5, n0, a0))), none, none, none, none, none, none], [], h) r :=
  s_new rfl rfl <|
  s_dup rfl rfl <|
  s_ci rfl rfl rfl rfl rfl rfl c k
theorem b5_L_law_7 {d : Nat} {r : PO × PM} {h : PM} {n0 a0 as0 : Nat} {h1 : PM} (c : Ca d mX12_init [vR (some (22, 0, (m_sz h)))] (m_new h 22 0 65) (.inl none) h1) (k : Ev (d + 1) mL_law (15, [some (vR (some (5, n0, a0))), some (vR (some (21, 0, as0))), none, none, none, none, none], [vR (some (22, 0, (m_sz h)))], h1) r) : Ev (d + 1) mL_law (7, [some (vR (some (5, n0, a0))), none, none, none, none, none, none], [vR (some (21, 0, as0))], h) r :=
  s_astore_n [some (vR (some (5, n0, a0))), some (vR (some (21, 0, as0))), none, none, none, none, none] rfl rfl <|
  s_new rfl rfl <|
  s_dup rfl rfl <|
  s_ci rfl rfl rfl rfl rfl rfl c k
theorem b5_L_law_15 {d : Nat} {r : PO × PM} {h : PM} {n0 a0 a1 as0 : Nat} (k : Ev d mL_law (23, [some (vR (some (5, n0, a0))), some (vR (some (21, 0, a1))), some (vR (some (22, 0, as0))), some (vR (some (2, 1, (m_sz h)))), some (vI 0), none, none], [], m_new h 2 1 1) r) : Ev d mL_law (15, [some (vR (some (5, n0, a0))), some (vR (some (21, 0, a1))), none, none, none, none, none], [vR (some (22, 0, as0))], h) r :=
  s_astore_n [some (vR (some (5, n0, a0))), some (vR (some (21, 0, a1))), some (vR (some (22, 0, as0))), none, none, none, none] rfl rfl <|
  s_iconst rfl rfl <|
  s_newa (n := 1) rfl (Or.inr (Or.inr ⟨rfl, rfl⟩)) (by decide) <|
  s_astore_n [some (vR (some (5, n0, a0))), some (vR (some (21, 0, a1))), some (vR (some (22, 0, as0))), some (vR (some (2, 1, (m_sz h)))), none, none, none] rfl rfl <|
  s_iconst rfl rfl <|
  s_istore [some (vR (some (5, n0, a0))), some (vR (some (21, 0, a1))), some (vR (some (22, 0, as0))), some (vR (some (2, 1, (m_sz h)))), some (vI 0), none, none] rfl rfl <|
  k
theorem b5_L_law_23 {d : Nat} {r : PO × PM} {h : PM} {n0 a0 a1 a2 n3 a3 : Nat} {x4 : Int} (hn1 : n0 ≤ 100000) (ho2 : -2147483648 ≤ (n0 : Int) - 6 ∧ (n0 : Int) - 6 ≤ 2147483647) (kt : (n0 : Int) - 6 < x4 → Ev d mL_law (2433, [some (vR (some (5, n0, a0))), some (vR (some (21, 0, a1))), some (vR (some (22, 0, a2))), some (vR (some (2, n3, a3))), some (vI x4), none, none], [], h) r) (kf : x4 ≤ (n0 : Int) - 6 → Ev d mL_law (33, [some (vR (some (5, n0, a0))), some (vR (some (21, 0, a1))), some (vR (some (22, 0, a2))), some (vR (some (2, n3, a3))), some (vI x4), none, none], [], h) r) : Ev d mL_law (23, [some (vR (some (5, n0, a0))), some (vR (some (21, 0, a1))), some (vR (some (22, 0, a2))), some (vR (some (2, n3, a3))), some (vI x4), none, none], [], h) r :=
  s_iload rfl rfl rfl <|
  s_aload_n rfl rfl rfl <|
  s_alen rfl rfl hn1 <|
  s_bipush rfl rfl <|
  s_isubp rfl ho2 <|
  s_icmp_gt 2433 rfl rfl kt kf
theorem b5_L_law_33 {d : Nat} {r : PO × PM} {h : PM} {n0 a0 a1 a2 n3 a3 : Nat} {x4 : Int} (hi1 : 0 ≤ x4 ∧ x4 < (n0 : Nat)) (k0 : p_and (h.1 a0 x4.toNat) 63 = 0 → Ev d mL_law (204, [some (vR (some (5, n0, a0))), some (vR (some (21, 0, a1))), some (vR (some (22, 0, a2))), some (vR (some (2, n3, a3))), some (vI x4), none, none], [], h) r) (k1 : p_and (h.1 a0 x4.toNat) 63 = 1 → Ev d mL_law (277, [some (vR (some (5, n0, a0))), some (vR (some (21, 0, a1))), some (vR (some (22, 0, a2))), some (vR (some (2, n3, a3))), some (vI x4), none, none], [], h) r) (k2 : p_and (h.1 a0 x4.toNat) 63 = 2 → Ev d mL_law (333, [some (vR (some (5, n0, a0))), some (vR (some (21, 0, a1))), some (vR (some (22, 0, a2))), some (vR (some (2, n3, a3))), some (vI x4), none, none], [], h) r) (k3 : p_and (h.1 a0 x4.toNat) 63 = 3 → Ev d mL_law (346, [some (vR (some (5, n0, a0))), some (vR (some (21, 0, a1))), some (vR (some (22, 0, a2))), some (vR (some (2, n3, a3))), some (vI x4), none, none], [], h) r) (k4 : p_and (h.1 a0 x4.toNat) 63 = 4 → Ev d mL_law (402, [some (vR (some (5, n0, a0))), some (vR (some (21, 0, a1))), some (vR (some (22, 0, a2))), some (vR (some (2, n3, a3))), some (vI x4), none, none], [], h) r) (k5 : p_and (h.1 a0 x4.toNat) 63 = 5 → Ev d mL_law (470, [some (vR (some (5, n0, a0))), some (vR (some (21, 0, a1))), some (vR (some (22, 0, a2))), some (vR (some (2, n3, a3))), some (vI x4), none, none], [], h) r) (k6 : p_and (h.1 a0 x4.toNat) 63 = 6 → Ev d mL_law (538, [some (vR (some (5, n0, a0))), some (vR (some (21, 0, a1))), some (vR (some (22, 0, a2))), some (vR (some (2, n3, a3))), some (vI x4), none, none], [], h) r) (k7 : p_and (h.1 a0 x4.toNat) 63 = 7 → Ev d mL_law (618, [some (vR (some (5, n0, a0))), some (vR (some (21, 0, a1))), some (vR (some (22, 0, a2))), some (vR (some (2, n3, a3))), some (vI x4), none, none], [], h) r) (k8 : p_and (h.1 a0 x4.toNat) 63 = 8 → Ev d mL_law (686, [some (vR (some (5, n0, a0))), some (vR (some (21, 0, a1))), some (vR (some (22, 0, a2))), some (vR (some (2, n3, a3))), some (vI x4), none, none], [], h) r) (k9 : p_and (h.1 a0 x4.toNat) 63 = 9 → Ev d mL_law (754, [some (vR (some (5, n0, a0))), some (vR (some (21, 0, a1))), some (vR (some (22, 0, a2))), some (vR (some (2, n3, a3))), some (vI x4), none, none], [], h) r) (k10 : p_and (h.1 a0 x4.toNat) 63 = 10 → Ev d mL_law (834, [some (vR (some (5, n0, a0))), some (vR (some (21, 0, a1))), some (vR (some (22, 0, a2))), some (vR (some (2, n3, a3))), some (vI x4), none, none], [], h) r) (k11 : p_and (h.1 a0 x4.toNat) 63 = 11 → Ev d mL_law (926, [some (vR (some (5, n0, a0))), some (vR (some (21, 0, a1))), some (vR (some (22, 0, a2))), some (vR (some (2, n3, a3))), some (vI x4), none, none], [], h) r) (k12 : p_and (h.1 a0 x4.toNat) 63 = 12 → Ev d mL_law (1018, [some (vR (some (5, n0, a0))), some (vR (some (21, 0, a1))), some (vR (some (22, 0, a2))), some (vR (some (2, n3, a3))), some (vI x4), none, none], [], h) r) (k13 : p_and (h.1 a0 x4.toNat) 63 = 13 → Ev d mL_law (1098, [some (vR (some (5, n0, a0))), some (vR (some (21, 0, a1))), some (vR (some (22, 0, a2))), some (vR (some (2, n3, a3))), some (vI x4), none, none], [], h) r) (k14 : p_and (h.1 a0 x4.toNat) 63 = 14 → Ev d mL_law (1190, [some (vR (some (5, n0, a0))), some (vR (some (21, 0, a1))), some (vR (some (22, 0, a2))), some (vR (some (2, n3, a3))), some (vI x4), none, none], [], h) r) (k15 : p_and (h.1 a0 x4.toNat) 63 = 15 → Ev d mL_law (1270, [some (vR (some (5, n0, a0))), some (vR (some (21, 0, a1))), some (vR (some (22, 0, a2))), some (vR (some (2, n3, a3))), some (vI x4), none, none], [], h) r) (k16 : p_and (h.1 a0 x4.toNat) 63 = 16 → Ev d mL_law (1338, [some (vR (some (5, n0, a0))), some (vR (some (21, 0, a1))), some (vR (some (22, 0, a2))), some (vR (some (2, n3, a3))), some (vI x4), none, none], [], h) r) (k17 : p_and (h.1 a0 x4.toNat) 63 = 17 → Ev d mL_law (1406, [some (vR (some (5, n0, a0))), some (vR (some (21, 0, a1))), some (vR (some (22, 0, a2))), some (vR (some (2, n3, a3))), some (vI x4), none, none], [], h) r) (k18 : p_and (h.1 a0 x4.toNat) 63 = 18 → Ev d mL_law (1474, [some (vR (some (5, n0, a0))), some (vR (some (21, 0, a1))), some (vR (some (22, 0, a2))), some (vR (some (2, n3, a3))), some (vI x4), none, none], [], h) r) (k19 : p_and (h.1 a0 x4.toNat) 63 = 19 → Ev d mL_law (1542, [some (vR (some (5, n0, a0))), some (vR (some (21, 0, a1))), some (vR (some (22, 0, a2))), some (vR (some (2, n3, a3))), some (vI x4), none, none], [], h) r) (k20 : p_and (h.1 a0 x4.toNat) 63 = 20 → Ev d mL_law (1610, [some (vR (some (5, n0, a0))), some (vR (some (21, 0, a1))), some (vR (some (22, 0, a2))), some (vR (some (2, n3, a3))), some (vI x4), none, none], [], h) r) (k21 : p_and (h.1 a0 x4.toNat) 63 = 21 → Ev d mL_law (1666, [some (vR (some (5, n0, a0))), some (vR (some (21, 0, a1))), some (vR (some (22, 0, a2))), some (vR (some (2, n3, a3))), some (vI x4), none, none], [], h) r) (k22 : p_and (h.1 a0 x4.toNat) 63 = 22 → Ev d mL_law (1734, [some (vR (some (5, n0, a0))), some (vR (some (21, 0, a1))), some (vR (some (22, 0, a2))), some (vR (some (2, n3, a3))), some (vI x4), none, none], [], h) r) (k23 : p_and (h.1 a0 x4.toNat) 63 = 23 → Ev d mL_law (1802, [some (vR (some (5, n0, a0))), some (vR (some (21, 0, a1))), some (vR (some (22, 0, a2))), some (vR (some (2, n3, a3))), some (vI x4), none, none], [], h) r) (k24 : p_and (h.1 a0 x4.toNat) 63 = 24 → Ev d mL_law (1815, [some (vR (some (5, n0, a0))), some (vR (some (21, 0, a1))), some (vR (some (22, 0, a2))), some (vR (some (2, n3, a3))), some (vI x4), none, none], [], h) r) (k25 : p_and (h.1 a0 x4.toNat) 63 = 25 → Ev d mL_law (1883, [some (vR (some (5, n0, a0))), some (vR (some (21, 0, a1))), some (vR (some (22, 0, a2))), some (vR (some (2, n3, a3))), some (vI x4), none, none], [], h) r) (k26 : p_and (h.1 a0 x4.toNat) 63 = 26 → Ev d mL_law (1939, [some (vR (some (5, n0, a0))), some (vR (some (21, 0, a1))), some (vR (some (22, 0, a2))), some (vR (some (2, n3, a3))), some (vI x4), none, none], [], h) r) (k27 : p_and (h.1 a0 x4.toNat) 63 = 27 → Ev d mL_law (1952, [some (vR (some (5, n0, a0))), some (vR (some (21, 0, a1))), some (vR (some (22, 0, a2))), some (vR (some (2, n3, a3))), some (vI x4), none, none], [], h) r) (k28 : p_and (h.1 a0 x4.toNat) 63 = 28 → Ev d mL_law (2020, [some (vR (some (5, n0, a0))), some (vR (some (21, 0, a1))), some (vR (some (22, 0, a2))), some (vR (some (2, n3, a3))), some (vI x4), none, none], [], h) r) (k29 : p_and (h.1 a0 x4.toNat) 63 = 29 → Ev d mL_law (2076, [some (vR (some (5, n0, a0))), some (vR (some (21, 0, a1))), some (vR (some (22, 0, a2))), some (vR (some (2, n3, a3))), some (vI x4), none, none], [], h) r) (k30 : p_and (h.1 a0 x4.toNat) 63 = 30 → Ev d mL_law (2132, [some (vR (some (5, n0, a0))), some (vR (some (21, 0, a1))), some (vR (some (22, 0, a2))), some (vR (some (2, n3, a3))), some (vI x4), none, none], [], h) r) (k31 : p_and (h.1 a0 x4.toNat) 63 = 31 → Ev d mL_law (2188, [some (vR (some (5, n0, a0))), some (vR (some (21, 0, a1))), some (vR (some (22, 0, a2))), some (vR (some (2, n3, a3))), some (vI x4), none, none], [], h) r) (k32 : p_and (h.1 a0 x4.toNat) 63 = 32 → Ev d mL_law (2256, [some (vR (some (5, n0, a0))), some (vR (some (21, 0, a1))), some (vR (some (22, 0, a2))), some (vR (some (2, n3, a3))), some (vI x4), none, none], [], h) r) (k33 : p_and (h.1 a0 x4.toNat) 63 = 33 → Ev d mL_law (2267, [some (vR (some (5, n0, a0))), some (vR (some (21, 0, a1))), some (vR (some (22, 0, a2))), some (vR (some (2, n3, a3))), some (vI x4), none, none], [], h) r) (k34 : p_and (h.1 a0 x4.toNat) 63 = 34 → Ev d mL_law (2323, [some (vR (some (5, n0, a0))), some (vR (some (21, 0, a1))), some (vR (some (22, 0, a2))), some (vR (some (2, n3, a3))), some (vI x4), none, none], [], h) r) (k35 : p_and (h.1 a0 x4.toNat) 63 = 35 → Ev d mL_law (2403, [some (vR (some (5, n0, a0))), some (vR (some (21, 0, a1))), some (vR (some (22, 0, a2))), some (vR (some (2, n3, a3))), some (vI x4), none, none], [], h) r) (k36 : p_and (h.1 a0 x4.toNat) 63 = 36 → Ev d mL_law (2414, [some (vR (some (5, n0, a0))), some (vR (some (21, 0, a1))), some (vR (some (22, 0, a2))), some (vR (some (2, n3, a3))), some (vI x4), none, none], [], h) r) (kd : ¬(0 ≤ p_and (h.1 a0 x4.toNat) 63 ∧ p_and (h.1 a0 x4.toNat) 63 ≤ 36) → Ev d mL_law (2427, [some (vR (some (5, n0, a0))), some (vR (some (21, 0, a1))), some (vR (some (22, 0, a2))), some (vR (some (2, n3, a3))), some (vI x4), none, none], [], h) r) : Ev d mL_law (33, [some (vR (some (5, n0, a0))), some (vR (some (21, 0, a1))), some (vR (some (22, 0, a2))), some (vR (some (2, n3, a3))), some (vI x4), none, none], [], h) r :=
  s_aload_n rfl rfl rfl <|
  s_iload rfl rfl rfl <|
  s_iald rfl rfl hi1 <|
  s_bipush rfl rfl <|
  s_iand rfl <|
  s_sw 2427 rfl (by decide) (fun c => kd c) (fun j hj => by
  match j, hj with
  | 0, _ => exact fun c => k0 c
  | 1, _ => exact fun c => k1 c
  | 2, _ => exact fun c => k2 c
  | 3, _ => exact fun c => k3 c
  | 4, _ => exact fun c => k4 c
  | 5, _ => exact fun c => k5 c
  | 6, _ => exact fun c => k6 c
  | 7, _ => exact fun c => k7 c
  | 8, _ => exact fun c => k8 c
  | 9, _ => exact fun c => k9 c
  | 10, _ => exact fun c => k10 c
  | 11, _ => exact fun c => k11 c
  | 12, _ => exact fun c => k12 c
  | 13, _ => exact fun c => k13 c
  | 14, _ => exact fun c => k14 c
  | 15, _ => exact fun c => k15 c
  | 16, _ => exact fun c => k16 c
  | 17, _ => exact fun c => k17 c
  | 18, _ => exact fun c => k18 c
  | 19, _ => exact fun c => k19 c
  | 20, _ => exact fun c => k20 c
  | 21, _ => exact fun c => k21 c
  | 22, _ => exact fun c => k22 c
  | 23, _ => exact fun c => k23 c
  | 24, _ => exact fun c => k24 c
  | 25, _ => exact fun c => k25 c
  | 26, _ => exact fun c => k26 c
  | 27, _ => exact fun c => k27 c
  | 28, _ => exact fun c => k28 c
  | 29, _ => exact fun c => k29 c
  | 30, _ => exact fun c => k30 c
  | 31, _ => exact fun c => k31 c
  | 32, _ => exact fun c => k32 c
  | 33, _ => exact fun c => k33 c
  | 34, _ => exact fun c => k34 c
  | 35, _ => exact fun c => k35 c
  | 36, _ => exact fun c => k36 c
  | j + 37, hj => exact absurd hj (by simp))
theorem b5_L_law_204 {d : Nat} {r : PO × PM} {h : PM} {n0 a0 a1 a2 n3 a3 : Nat} {x4 z : Int} {h1 : PM} (ho1 : -2147483648 ≤ x4 + 1 ∧ x4 + 1 ≤ 2147483647) (hi2 : 0 ≤ x4 + 1 ∧ x4 + 1 < (n0 : Nat)) (ho3 : -2147483648 ≤ x4 + 2 ∧ x4 + 2 ≤ 2147483647) (hi4 : 0 ≤ x4 + 2 ∧ x4 + 2 < (n0 : Nat)) (ho5 : -2147483648 ≤ x4 + 3 ∧ x4 + 3 ≤ 2147483647) (hi6 : 0 ≤ x4 + 3 ∧ x4 + 3 < (n0 : Nat)) (ho7 : -2147483648 ≤ x4 + 4 ∧ x4 + 4 ≤ 2147483647) (hi8 : 0 ≤ x4 + 4 ∧ x4 + 4 < (n0 : Nat)) (ho9 : -2147483648 ≤ x4 + 5 ∧ x4 + 5 ≤ 2147483647) (hi10 : 0 ≤ x4 + 5 ∧ x4 + 5 < (n0 : Nat)) (c : Ca d mX11_feed [vR (some (21, 0, a1)), vI (h.1 a0 (x4 + 1).toNat), vI (h.1 a0 (x4 + 2).toNat), vI (h.1 a0 (x4 + 3).toNat), vI (h.1 a0 (x4 + 4).toNat), vI (h.1 a0 (x4 + 5).toNat)] h (.inl (some (vI z))) h1) (k : Ev (d + 1) mL_law (238, [some (vR (some (5, n0, a0))), some (vR (some (21, 0, a1))), some (vR (some (22, 0, a2))), some (vR (some (2, n3, a3))), some (vI x4), none, none], [vI z], h1) r) : Ev (d + 1) mL_law (204, [some (vR (some (5, n0, a0))), some (vR (some (21, 0, a1))), some (vR (some (22, 0, a2))), some (vR (some (2, n3, a3))), some (vI x4), none, none], [], h) r :=
  s_aload_n rfl rfl rfl <|
  s_aload_n rfl rfl rfl <|
  s_iload rfl rfl rfl <|
  s_iconst rfl rfl <|
  s_iaddp rfl ho1 <|
  s_iald rfl rfl hi2 <|
  s_aload_n rfl rfl rfl <|
  s_iload rfl rfl rfl <|
  s_iconst rfl rfl <|
  s_iaddp rfl ho3 <|
  s_iald rfl rfl hi4 <|
  s_aload_n rfl rfl rfl <|
  s_iload rfl rfl rfl <|
  s_iconst rfl rfl <|
  s_iaddp rfl ho5 <|
  s_iald rfl rfl hi6 <|
  s_aload_n rfl rfl rfl <|
  s_iload rfl rfl rfl <|
  s_iconst rfl rfl <|
  s_iaddp rfl ho7 <|
  s_iald rfl rfl hi8 <|
  s_aload_n rfl rfl rfl <|
  s_iload rfl rfl rfl <|
  s_iconst rfl rfl <|
  s_iaddp rfl ho9 <|
  s_iald rfl rfl hi10 <|
  s_cvI rfl rfl rfl rfl rfl c k
theorem b5_L_law_238 {d : Nat} {r : PO × PM} {h : PM} {n0 a0 a1 a2 n3 a3 : Nat} {x4 xs0 z : Int} {h1 : PM} (ho1 : -2147483648 ≤ x4 + 1 ∧ x4 + 1 ≤ 2147483647) (hi2 : 0 ≤ x4 + 1 ∧ x4 + 1 < (n0 : Nat)) (ho3 : -2147483648 ≤ x4 + 2 ∧ x4 + 2 ≤ 2147483647) (hi4 : 0 ≤ x4 + 2 ∧ x4 + 2 < (n0 : Nat)) (ho5 : -2147483648 ≤ x4 + 3 ∧ x4 + 3 ≤ 2147483647) (hi6 : 0 ≤ x4 + 3 ∧ x4 + 3 < (n0 : Nat)) (ho7 : -2147483648 ≤ x4 + 4 ∧ x4 + 4 ≤ 2147483647) (hi8 : 0 ≤ x4 + 4 ∧ x4 + 4 < (n0 : Nat)) (ho9 : -2147483648 ≤ x4 + 5 ∧ x4 + 5 ≤ 2147483647) (hi10 : 0 ≤ x4 + 5 ∧ x4 + 5 < (n0 : Nat)) (c : Ca d mX12_feed [vR (some (22, 0, a2)), vI (h.1 a0 (x4 + 1).toNat), vI (h.1 a0 (x4 + 2).toNat), vI (h.1 a0 (x4 + 3).toNat), vI (h.1 a0 (x4 + 4).toNat), vI (h.1 a0 (x4 + 5).toNat)] h (.inl (some (vI z))) h1) (k : Ev (d + 1) mL_law (272, [some (vR (some (5, n0, a0))), some (vR (some (21, 0, a1))), some (vR (some (22, 0, a2))), some (vR (some (2, n3, a3))), some (vI x4), none, none], [vI z, vI xs0], h1) r) : Ev (d + 1) mL_law (238, [some (vR (some (5, n0, a0))), some (vR (some (21, 0, a1))), some (vR (some (22, 0, a2))), some (vR (some (2, n3, a3))), some (vI x4), none, none], [vI xs0], h) r :=
  s_aload_n rfl rfl rfl <|
  s_aload_n rfl rfl rfl <|
  s_iload rfl rfl rfl <|
  s_iconst rfl rfl <|
  s_iaddp rfl ho1 <|
  s_iald rfl rfl hi2 <|
  s_aload_n rfl rfl rfl <|
  s_iload rfl rfl rfl <|
  s_iconst rfl rfl <|
  s_iaddp rfl ho3 <|
  s_iald rfl rfl hi4 <|
  s_aload_n rfl rfl rfl <|
  s_iload rfl rfl rfl <|
  s_iconst rfl rfl <|
  s_iaddp rfl ho5 <|
  s_iald rfl rfl hi6 <|
  s_aload_n rfl rfl rfl <|
  s_iload rfl rfl rfl <|
  s_iconst rfl rfl <|
  s_iaddp rfl ho7 <|
  s_iald rfl rfl hi8 <|
  s_aload_n rfl rfl rfl <|
  s_iload rfl rfl rfl <|
  s_iconst rfl rfl <|
  s_iaddp rfl ho9 <|
  s_iald rfl rfl hi10 <|
  s_cvI rfl rfl rfl rfl rfl c k
theorem b5_L_law_272 {d : Nat} {r : PO × PM} {h : PM} {n0 a0 a1 a2 n3 a3 : Nat} {x4 xs0 xs1 : Int} (kt : xs0 = xs1 → Ev d mL_law (2427, [some (vR (some (5, n0, a0))), some (vR (some (21, 0, a1))), some (vR (some (22, 0, a2))), some (vR (some (2, n3, a3))), some (vI x4), none, none], [], h) r) (kf : xs0 ≠ xs1 → Ev d mL_law (275, [some (vR (some (5, n0, a0))), some (vR (some (21, 0, a1))), some (vR (some (22, 0, a2))), some (vR (some (2, n3, a3))), some (vI x4), none, none], [], h) r) : Ev d mL_law (272, [some (vR (some (5, n0, a0))), some (vR (some (21, 0, a1))), some (vR (some (22, 0, a2))), some (vR (some (2, n3, a3))), some (vI x4), none, none], [vI xs1, vI xs0], h) r :=
  s_icmp_eq 2427 rfl rfl kt kf
theorem b5_L_law_275 {d : Nat} {h : PM} {n0 a0 a1 a2 n3 a3 : Nat} {x4 : Int} : Ev d mL_law (275, [some (vR (some (5, n0, a0))), some (vR (some (21, 0, a1))), some (vR (some (22, 0, a2))), some (vR (some (2, n3, a3))), some (vI x4), none, none], [], h) (.inl (some (vI 0)), h) :=
  s_iconst rfl rfl <|
  s_ret rfl rfl
theorem b5_L_law_277 {d : Nat} {r : PO × PM} {h : PM} {n0 a0 a1 a2 n3 a3 : Nat} {x4 z : Int} {h1 : PM} (ho1 : -2147483648 ≤ x4 + 1 ∧ x4 + 1 ≤ 2147483647) (hi2 : 0 ≤ x4 + 1 ∧ x4 + 1 < (n0 : Nat)) (c : Ca d mL_atlas [vR (some (21, 0, a1)), vI (h.1 a0 (x4 + 1).toNat), vR (some (2, n3, a3))] h (.inl (some (vI z))) h1) (k : Ev (d + 1) mL_law (288, [some (vR (some (5, n0, a0))), some (vR (some (21, 0, a1))), some (vR (some (22, 0, a2))), some (vR (some (2, n3, a3))), some (vI x4), none, none], [vI z], h1) r) : Ev (d + 1) mL_law (277, [some (vR (some (5, n0, a0))), some (vR (some (21, 0, a1))), some (vR (some (22, 0, a2))), some (vR (some (2, n3, a3))), some (vI x4), none, none], [], h) r :=
  s_aload_n rfl rfl rfl <|
  s_aload_n rfl rfl rfl <|
  s_iload rfl rfl rfl <|
  s_iconst rfl rfl <|
  s_iaddp rfl ho1 <|
  s_iald rfl rfl hi2 <|
  s_aload_n rfl rfl rfl <|
  s_csI rfl rfl rfl rfl rfl rfl c k
theorem b5_L_law_288 {d : Nat} {r : PO × PM} {h : PM} {n0 a0 a1 a2 n3 a3 : Nat} {x4 xs0 z : Int} {h1 : PM} (ho1 : -2147483648 ≤ x4 + 1 ∧ x4 + 1 ≤ 2147483647) (hi2 : 0 ≤ x4 + 1 ∧ x4 + 1 < (n0 : Nat)) (c : Ca d mX12_atlas [vR (some (22, 0, a2)), vI (h.1 a0 (x4 + 1).toNat)] h (.inl (some (vI z))) h1) (k : Ev (d + 1) mL_law (300, [some (vR (some (5, n0, a0))), some (vR (some (21, 0, a1))), some (vR (some (22, 0, a2))), some (vR (some (2, n3, a3))), some (vI x4), some (vI xs0), none], [vI z], h1) r) : Ev (d + 1) mL_law (288, [some (vR (some (5, n0, a0))), some (vR (some (21, 0, a1))), some (vR (some (22, 0, a2))), some (vR (some (2, n3, a3))), some (vI x4), none, none], [vI xs0], h) r :=
  s_istore [some (vR (some (5, n0, a0))), some (vR (some (21, 0, a1))), some (vR (some (22, 0, a2))), some (vR (some (2, n3, a3))), some (vI x4), some (vI xs0), none] rfl rfl <|
  s_aload_n rfl rfl rfl <|
  s_aload_n rfl rfl rfl <|
  s_iload rfl rfl rfl <|
  s_iconst rfl rfl <|
  s_iaddp rfl ho1 <|
  s_iald rfl rfl hi2 <|
  s_cvI rfl rfl rfl rfl rfl c k
theorem b5_L_law_300 {d : Nat} {r : PO × PM} {h : PM} {n0 a0 a1 a2 n3 a3 : Nat} {x4 x5 xs0 z : Int} {h1 : PM} (c : Ca d mX12_thrown [vR (some (22, 0, a2))] h (.inl (some (vI z))) h1) (k : Ev (d + 1) mL_law (306, [some (vR (some (5, n0, a0))), some (vR (some (21, 0, a1))), some (vR (some (22, 0, a2))), some (vR (some (2, n3, a3))), some (vI x4), some (vI x5), some (vI xs0)], [vI z], h1) r) : Ev (d + 1) mL_law (300, [some (vR (some (5, n0, a0))), some (vR (some (21, 0, a1))), some (vR (some (22, 0, a2))), some (vR (some (2, n3, a3))), some (vI x4), some (vI x5), none], [vI xs0], h) r :=
  s_istore [some (vR (some (5, n0, a0))), some (vR (some (21, 0, a1))), some (vR (some (22, 0, a2))), some (vR (some (2, n3, a3))), some (vI x4), some (vI x5), some (vI xs0)] rfl rfl <|
  s_aload_n rfl rfl rfl <|
  s_cvI rfl rfl rfl rfl rfl c k
theorem b5_L_law_306 {d : Nat} {r : PO × PM} {h : PM} {n0 a0 a1 a2 n3 a3 : Nat} {x4 x5 x6 xs0 : Int} (kt : xs0 = x5 → Ev d mL_law (313, [some (vR (some (5, n0, a0))), some (vR (some (21, 0, a1))), some (vR (some (22, 0, a2))), some (vR (some (2, n3, a3))), some (vI x4), some (vI x5), some (vI x6)], [], h) r) (kf : xs0 ≠ x5 → Ev d mL_law (311, [some (vR (some (5, n0, a0))), some (vR (some (21, 0, a1))), some (vR (some (22, 0, a2))), some (vR (some (2, n3, a3))), some (vI x4), some (vI x5), some (vI x6)], [], h) r) : Ev d mL_law (306, [some (vR (some (5, n0, a0))), some (vR (some (21, 0, a1))), some (vR (some (22, 0, a2))), some (vR (some (2, n3, a3))), some (vI x4), some (vI x5), some (vI x6)], [vI xs0], h) r :=
  s_iload rfl rfl rfl <|
  s_icmp_eq 313 rfl rfl kt kf
theorem b5_L_law_311 {d : Nat} {h : PM} {n0 a0 a1 a2 n3 a3 : Nat} {x4 x5 x6 : Int} : Ev d mL_law (311, [some (vR (some (5, n0, a0))), some (vR (some (21, 0, a1))), some (vR (some (22, 0, a2))), some (vR (some (2, n3, a3))), some (vI x4), some (vI x5), some (vI x6)], [], h) (.inl (some (vI 0)), h) :=
  s_iconst rfl rfl <|
  s_ret rfl rfl
theorem b5_L_law_313 {d : Nat} {r : PO × PM} {h : PM} {n0 a0 a1 a2 n3 a3 : Nat} {x4 x5 x6 : Int} (kt : x5 ≠ 0 → Ev d mL_law (330, [some (vR (some (5, n0, a0))), some (vR (some (21, 0, a1))), some (vR (some (22, 0, a2))), some (vR (some (2, n3, a3))), some (vI x4), some (vI x5), some (vI x6)], [], h) r) (kf : x5 = 0 → Ev d mL_law (318, [some (vR (some (5, n0, a0))), some (vR (some (21, 0, a1))), some (vR (some (22, 0, a2))), some (vR (some (2, n3, a3))), some (vI x4), some (vI x5), some (vI x6)], [], h) r) : Ev d mL_law (313, [some (vR (some (5, n0, a0))), some (vR (some (21, 0, a1))), some (vR (some (22, 0, a2))), some (vR (some (2, n3, a3))), some (vI x4), some (vI x5), some (vI x6)], [], h) r :=
  s_iload rfl rfl rfl <|
  s_if_ne 330 rfl rfl kt kf
theorem b5_L_law_318 {d : Nat} {r : PO × PM} {h : PM} {n0 a0 a1 a2 n3 a3 : Nat} {x4 x5 x6 : Int} (hi1 : 0 < n3) (kt : p_lcmp (h.1 a3 0) (p_i2l x6) = 0 → Ev d mL_law (330, [some (vR (some (5, n0, a0))), some (vR (some (21, 0, a1))), some (vR (some (22, 0, a2))), some (vR (some (2, n3, a3))), some (vI x4), some (vI x5), some (vI x6)], [], h) r) (kf : p_lcmp (h.1 a3 0) (p_i2l x6) ≠ 0 → Ev d mL_law (328, [some (vR (some (5, n0, a0))), some (vR (some (21, 0, a1))), some (vR (some (22, 0, a2))), some (vR (some (2, n3, a3))), some (vI x4), some (vI x5), some (vI x6)], [], h) r) : Ev d mL_law (318, [some (vR (some (5, n0, a0))), some (vR (some (21, 0, a1))), some (vR (some (22, 0, a2))), some (vR (some (2, n3, a3))), some (vI x4), some (vI x5), some (vI x6)], [], h) r :=
  s_aload_n rfl rfl rfl <|
  s_iconst rfl rfl <|
  s_lald rfl rfl (p_lit (k := 0) hi1) <|
  s_iload rfl rfl rfl <|
  s_i2l rfl <|
  s_lcmp rfl <|
  s_if_eq 330 rfl rfl kt kf
theorem b5_L_law_328 {d : Nat} {h : PM} {n0 a0 a1 a2 n3 a3 : Nat} {x4 x5 x6 : Int} : Ev d mL_law (328, [some (vR (some (5, n0, a0))), some (vR (some (21, 0, a1))), some (vR (some (22, 0, a2))), some (vR (some (2, n3, a3))), some (vI x4), some (vI x5), some (vI x6)], [], h) (.inl (some (vI 0)), h) :=
  s_iconst rfl rfl <|
  s_ret rfl rfl
theorem b5_L_law_330 {d : Nat} {r : PO × PM} {h : PM} {n0 a0 a1 a2 n3 a3 : Nat} {x4 x5 x6 : Int} (k : Ev d mL_law (2427, [some (vR (some (5, n0, a0))), some (vR (some (21, 0, a1))), some (vR (some (22, 0, a2))), some (vR (some (2, n3, a3))), some (vI x4), none, none], [], h) r) : Ev d mL_law (330, [some (vR (some (5, n0, a0))), some (vR (some (21, 0, a1))), some (vR (some (22, 0, a2))), some (vR (some (2, n3, a3))), some (vI x4), some (vI x5), some (vI x6)], [], h) r :=
  s_goto 2427 rfl rfl (ev_forget [false, false, false, false, false, true, true] rfl k)
theorem b5_L_law_333 {d : Nat} {r : PO × PM} {h : PM} {n0 a0 a1 a2 n3 a3 : Nat} {x4 z : Int} {h1 : PM} (c : Ca d mX11_fault [vR (some (21, 0, a1))] h (.inl (some (vI z))) h1) (k : Ev (d + 1) mL_law (337, [some (vR (some (5, n0, a0))), some (vR (some (21, 0, a1))), some (vR (some (22, 0, a2))), some (vR (some (2, n3, a3))), some (vI x4), none, none], [vI z], h1) r) : Ev (d + 1) mL_law (333, [some (vR (some (5, n0, a0))), some (vR (some (21, 0, a1))), some (vR (some (22, 0, a2))), some (vR (some (2, n3, a3))), some (vI x4), none, none], [], h) r :=
  s_aload_n rfl rfl rfl <|
  s_cvI rfl rfl rfl rfl rfl c k
theorem b5_L_law_337 {d : Nat} {r : PO × PM} {h : PM} {n0 a0 a1 a2 n3 a3 : Nat} {x4 xs0 z : Int} {h1 : PM} (c : Ca d mX12_fault [vR (some (22, 0, a2))] h (.inl (some (vI z))) h1) (k : Ev (d + 1) mL_law (341, [some (vR (some (5, n0, a0))), some (vR (some (21, 0, a1))), some (vR (some (22, 0, a2))), some (vR (some (2, n3, a3))), some (vI x4), none, none], [vI z, vI xs0], h1) r) : Ev (d + 1) mL_law (337, [some (vR (some (5, n0, a0))), some (vR (some (21, 0, a1))), some (vR (some (22, 0, a2))), some (vR (some (2, n3, a3))), some (vI x4), none, none], [vI xs0], h) r :=
  s_aload_n rfl rfl rfl <|
  s_cvI rfl rfl rfl rfl rfl c k
theorem b5_L_law_341 {d : Nat} {r : PO × PM} {h : PM} {n0 a0 a1 a2 n3 a3 : Nat} {x4 xs0 xs1 : Int} (kt : xs0 = xs1 → Ev d mL_law (2427, [some (vR (some (5, n0, a0))), some (vR (some (21, 0, a1))), some (vR (some (22, 0, a2))), some (vR (some (2, n3, a3))), some (vI x4), none, none], [], h) r) (kf : xs0 ≠ xs1 → Ev d mL_law (344, [some (vR (some (5, n0, a0))), some (vR (some (21, 0, a1))), some (vR (some (22, 0, a2))), some (vR (some (2, n3, a3))), some (vI x4), none, none], [], h) r) : Ev d mL_law (341, [some (vR (some (5, n0, a0))), some (vR (some (21, 0, a1))), some (vR (some (22, 0, a2))), some (vR (some (2, n3, a3))), some (vI x4), none, none], [vI xs1, vI xs0], h) r :=
  s_icmp_eq 2427 rfl rfl kt kf
theorem b5_L_law_344 {d : Nat} {h : PM} {n0 a0 a1 a2 n3 a3 : Nat} {x4 : Int} : Ev d mL_law (344, [some (vR (some (5, n0, a0))), some (vR (some (21, 0, a1))), some (vR (some (22, 0, a2))), some (vR (some (2, n3, a3))), some (vI x4), none, none], [], h) (.inl (some (vI 0)), h) :=
  s_iconst rfl rfl <|
  s_ret rfl rfl
theorem b5_L_law_346 {d : Nat} {r : PO × PM} {h : PM} {n0 a0 a1 a2 n3 a3 : Nat} {x4 z : Int} {h1 : PM} (ho1 : -2147483648 ≤ x4 + 1 ∧ x4 + 1 ≤ 2147483647) (hi2 : 0 ≤ x4 + 1 ∧ x4 + 1 < (n0 : Nat)) (c : Ca d mL_count [vR (some (21, 0, a1)), vI (h.1 a0 (x4 + 1).toNat), vR (some (2, n3, a3))] h (.inl (some (vI z))) h1) (k : Ev (d + 1) mL_law (357, [some (vR (some (5, n0, a0))), some (vR (some (21, 0, a1))), some (vR (some (22, 0, a2))), some (vR (some (2, n3, a3))), some (vI x4), none, none], [vI z], h1) r) : Ev (d + 1) mL_law (346, [some (vR (some (5, n0, a0))), some (vR (some (21, 0, a1))), some (vR (some (22, 0, a2))), some (vR (some (2, n3, a3))), some (vI x4), none, none], [], h) r :=
  s_aload_n rfl rfl rfl <|
  s_aload_n rfl rfl rfl <|
  s_iload rfl rfl rfl <|
  s_iconst rfl rfl <|
  s_iaddp rfl ho1 <|
  s_iald rfl rfl hi2 <|
  s_aload_n rfl rfl rfl <|
  s_csI rfl rfl rfl rfl rfl rfl c k
theorem b5_L_law_357 {d : Nat} {r : PO × PM} {h : PM} {n0 a0 a1 a2 n3 a3 : Nat} {x4 xs0 z : Int} {h1 : PM} (ho1 : -2147483648 ≤ x4 + 1 ∧ x4 + 1 ≤ 2147483647) (hi2 : 0 ≤ x4 + 1 ∧ x4 + 1 < (n0 : Nat)) (c : Ca d mX12_count [vR (some (22, 0, a2)), vI (h.1 a0 (x4 + 1).toNat)] h (.inl (some (vI z))) h1) (k : Ev (d + 1) mL_law (369, [some (vR (some (5, n0, a0))), some (vR (some (21, 0, a1))), some (vR (some (22, 0, a2))), some (vR (some (2, n3, a3))), some (vI x4), some (vI xs0), none], [vI z], h1) r) : Ev (d + 1) mL_law (357, [some (vR (some (5, n0, a0))), some (vR (some (21, 0, a1))), some (vR (some (22, 0, a2))), some (vR (some (2, n3, a3))), some (vI x4), none, none], [vI xs0], h) r :=
  s_istore [some (vR (some (5, n0, a0))), some (vR (some (21, 0, a1))), some (vR (some (22, 0, a2))), some (vR (some (2, n3, a3))), some (vI x4), some (vI xs0), none] rfl rfl <|
  s_aload_n rfl rfl rfl <|
  s_aload_n rfl rfl rfl <|
  s_iload rfl rfl rfl <|
  s_iconst rfl rfl <|
  s_iaddp rfl ho1 <|
  s_iald rfl rfl hi2 <|
  s_cvI rfl rfl rfl rfl rfl c k
theorem b5_L_law_369 {d : Nat} {r : PO × PM} {h : PM} {n0 a0 a1 a2 n3 a3 : Nat} {x4 x5 xs0 z : Int} {h1 : PM} (c : Ca d mX12_thrown [vR (some (22, 0, a2))] h (.inl (some (vI z))) h1) (k : Ev (d + 1) mL_law (375, [some (vR (some (5, n0, a0))), some (vR (some (21, 0, a1))), some (vR (some (22, 0, a2))), some (vR (some (2, n3, a3))), some (vI x4), some (vI x5), some (vI xs0)], [vI z], h1) r) : Ev (d + 1) mL_law (369, [some (vR (some (5, n0, a0))), some (vR (some (21, 0, a1))), some (vR (some (22, 0, a2))), some (vR (some (2, n3, a3))), some (vI x4), some (vI x5), none], [vI xs0], h) r :=
  s_istore [some (vR (some (5, n0, a0))), some (vR (some (21, 0, a1))), some (vR (some (22, 0, a2))), some (vR (some (2, n3, a3))), some (vI x4), some (vI x5), some (vI xs0)] rfl rfl <|
  s_aload_n rfl rfl rfl <|
  s_cvI rfl rfl rfl rfl rfl c k
theorem b5_L_law_375 {d : Nat} {r : PO × PM} {h : PM} {n0 a0 a1 a2 n3 a3 : Nat} {x4 x5 x6 xs0 : Int} (kt : xs0 = x5 → Ev d mL_law (382, [some (vR (some (5, n0, a0))), some (vR (some (21, 0, a1))), some (vR (some (22, 0, a2))), some (vR (some (2, n3, a3))), some (vI x4), some (vI x5), some (vI x6)], [], h) r) (kf : xs0 ≠ x5 → Ev d mL_law (380, [some (vR (some (5, n0, a0))), some (vR (some (21, 0, a1))), some (vR (some (22, 0, a2))), some (vR (some (2, n3, a3))), some (vI x4), some (vI x5), some (vI x6)], [], h) r) : Ev d mL_law (375, [some (vR (some (5, n0, a0))), some (vR (some (21, 0, a1))), some (vR (some (22, 0, a2))), some (vR (some (2, n3, a3))), some (vI x4), some (vI x5), some (vI x6)], [vI xs0], h) r :=
  s_iload rfl rfl rfl <|
  s_icmp_eq 382 rfl rfl kt kf
theorem b5_L_law_380 {d : Nat} {h : PM} {n0 a0 a1 a2 n3 a3 : Nat} {x4 x5 x6 : Int} : Ev d mL_law (380, [some (vR (some (5, n0, a0))), some (vR (some (21, 0, a1))), some (vR (some (22, 0, a2))), some (vR (some (2, n3, a3))), some (vI x4), some (vI x5), some (vI x6)], [], h) (.inl (some (vI 0)), h) :=
  s_iconst rfl rfl <|
  s_ret rfl rfl
theorem b5_L_law_382 {d : Nat} {r : PO × PM} {h : PM} {n0 a0 a1 a2 n3 a3 : Nat} {x4 x5 x6 : Int} (kt : x5 ≠ 0 → Ev d mL_law (399, [some (vR (some (5, n0, a0))), some (vR (some (21, 0, a1))), some (vR (some (22, 0, a2))), some (vR (some (2, n3, a3))), some (vI x4), some (vI x5), some (vI x6)], [], h) r) (kf : x5 = 0 → Ev d mL_law (387, [some (vR (some (5, n0, a0))), some (vR (some (21, 0, a1))), some (vR (some (22, 0, a2))), some (vR (some (2, n3, a3))), some (vI x4), some (vI x5), some (vI x6)], [], h) r) : Ev d mL_law (382, [some (vR (some (5, n0, a0))), some (vR (some (21, 0, a1))), some (vR (some (22, 0, a2))), some (vR (some (2, n3, a3))), some (vI x4), some (vI x5), some (vI x6)], [], h) r :=
  s_iload rfl rfl rfl <|
  s_if_ne 399 rfl rfl kt kf
theorem b5_L_law_387 {d : Nat} {r : PO × PM} {h : PM} {n0 a0 a1 a2 n3 a3 : Nat} {x4 x5 x6 : Int} (hi1 : 0 < n3) (kt : p_lcmp (h.1 a3 0) (p_i2l x6) = 0 → Ev d mL_law (399, [some (vR (some (5, n0, a0))), some (vR (some (21, 0, a1))), some (vR (some (22, 0, a2))), some (vR (some (2, n3, a3))), some (vI x4), some (vI x5), some (vI x6)], [], h) r) (kf : p_lcmp (h.1 a3 0) (p_i2l x6) ≠ 0 → Ev d mL_law (397, [some (vR (some (5, n0, a0))), some (vR (some (21, 0, a1))), some (vR (some (22, 0, a2))), some (vR (some (2, n3, a3))), some (vI x4), some (vI x5), some (vI x6)], [], h) r) : Ev d mL_law (387, [some (vR (some (5, n0, a0))), some (vR (some (21, 0, a1))), some (vR (some (22, 0, a2))), some (vR (some (2, n3, a3))), some (vI x4), some (vI x5), some (vI x6)], [], h) r :=
  s_aload_n rfl rfl rfl <|
  s_iconst rfl rfl <|
  s_lald rfl rfl (p_lit (k := 0) hi1) <|
  s_iload rfl rfl rfl <|
  s_i2l rfl <|
  s_lcmp rfl <|
  s_if_eq 399 rfl rfl kt kf
theorem b5_L_law_397 {d : Nat} {h : PM} {n0 a0 a1 a2 n3 a3 : Nat} {x4 x5 x6 : Int} : Ev d mL_law (397, [some (vR (some (5, n0, a0))), some (vR (some (21, 0, a1))), some (vR (some (22, 0, a2))), some (vR (some (2, n3, a3))), some (vI x4), some (vI x5), some (vI x6)], [], h) (.inl (some (vI 0)), h) :=
  s_iconst rfl rfl <|
  s_ret rfl rfl
theorem b5_L_law_399 {d : Nat} {r : PO × PM} {h : PM} {n0 a0 a1 a2 n3 a3 : Nat} {x4 x5 x6 : Int} (k : Ev d mL_law (2427, [some (vR (some (5, n0, a0))), some (vR (some (21, 0, a1))), some (vR (some (22, 0, a2))), some (vR (some (2, n3, a3))), some (vI x4), none, none], [], h) r) : Ev d mL_law (399, [some (vR (some (5, n0, a0))), some (vR (some (21, 0, a1))), some (vR (some (22, 0, a2))), some (vR (some (2, n3, a3))), some (vI x4), some (vI x5), some (vI x6)], [], h) r :=
  s_goto 2427 rfl rfl (ev_forget [false, false, false, false, false, true, true] rfl k)
theorem b5_L_law_402 {d : Nat} {r : PO × PM} {h : PM} {n0 a0 a1 a2 n3 a3 : Nat} {x4 z : Int} {h1 : PM} (ho1 : -2147483648 ≤ x4 + 1 ∧ x4 + 1 ≤ 2147483647) (hi2 : 0 ≤ x4 + 1 ∧ x4 + 1 < (n0 : Nat)) (ho3 : -2147483648 ≤ x4 + 2 ∧ x4 + 2 ≤ 2147483647) (hi4 : 0 ≤ x4 + 2 ∧ x4 + 2 < (n0 : Nat)) (c : Ca d mL_piece [vR (some (21, 0, a1)), vI (h.1 a0 (x4 + 1).toNat), vI (h.1 a0 (x4 + 2).toNat), vR (some (2, n3, a3))] h (.inl (some (vI z))) h1) (k : Ev (d + 1) mL_law (419, [some (vR (some (5, n0, a0))), some (vR (some (21, 0, a1))), some (vR (some (22, 0, a2))), some (vR (some (2, n3, a3))), some (vI x4), none, none], [vI z], h1) r) : Ev (d + 1) mL_law (402, [some (vR (some (5, n0, a0))), some (vR (some (21, 0, a1))), some (vR (some (22, 0, a2))), some (vR (some (2, n3, a3))), some (vI x4), none, none], [], h) r :=
  s_aload_n rfl rfl rfl <|
  s_aload_n rfl rfl rfl <|
  s_iload rfl rfl rfl <|
  s_iconst rfl rfl <|
  s_iaddp rfl ho1 <|
  s_iald rfl rfl hi2 <|
  s_aload_n rfl rfl rfl <|
  s_iload rfl rfl rfl <|
  s_iconst rfl rfl <|
  s_iaddp rfl ho3 <|
  s_iald rfl rfl hi4 <|
  s_aload_n rfl rfl rfl <|
  s_csI rfl rfl rfl rfl rfl rfl c k
theorem b5_L_law_419 {d : Nat} {r : PO × PM} {h : PM} {n0 a0 a1 a2 n3 a3 : Nat} {x4 xs0 z : Int} {h1 : PM} (ho1 : -2147483648 ≤ x4 + 1 ∧ x4 + 1 ≤ 2147483647) (hi2 : 0 ≤ x4 + 1 ∧ x4 + 1 < (n0 : Nat)) (ho3 : -2147483648 ≤ x4 + 2 ∧ x4 + 2 ≤ 2147483647) (hi4 : 0 ≤ x4 + 2 ∧ x4 + 2 < (n0 : Nat)) (c : Ca d mX12_piece [vR (some (22, 0, a2)), vI (h.1 a0 (x4 + 1).toNat), vI (h.1 a0 (x4 + 2).toNat)] h (.inl (some (vI z))) h1) (k : Ev (d + 1) mL_law (437, [some (vR (some (5, n0, a0))), some (vR (some (21, 0, a1))), some (vR (some (22, 0, a2))), some (vR (some (2, n3, a3))), some (vI x4), some (vI xs0), none], [vI z], h1) r) : Ev (d + 1) mL_law (419, [some (vR (some (5, n0, a0))), some (vR (some (21, 0, a1))), some (vR (some (22, 0, a2))), some (vR (some (2, n3, a3))), some (vI x4), none, none], [vI xs0], h) r :=
  s_istore [some (vR (some (5, n0, a0))), some (vR (some (21, 0, a1))), some (vR (some (22, 0, a2))), some (vR (some (2, n3, a3))), some (vI x4), some (vI xs0), none] rfl rfl <|
  s_aload_n rfl rfl rfl <|
  s_aload_n rfl rfl rfl <|
  s_iload rfl rfl rfl <|
  s_iconst rfl rfl <|
  s_iaddp rfl ho1 <|
  s_iald rfl rfl hi2 <|
  s_aload_n rfl rfl rfl <|
  s_iload rfl rfl rfl <|
  s_iconst rfl rfl <|
  s_iaddp rfl ho3 <|
  s_iald rfl rfl hi4 <|
  s_cvI rfl rfl rfl rfl rfl c k
theorem b5_L_law_437 {d : Nat} {r : PO × PM} {h : PM} {n0 a0 a1 a2 n3 a3 : Nat} {x4 x5 xs0 z : Int} {h1 : PM} (c : Ca d mX12_thrown [vR (some (22, 0, a2))] h (.inl (some (vI z))) h1) (k : Ev (d + 1) mL_law (443, [some (vR (some (5, n0, a0))), some (vR (some (21, 0, a1))), some (vR (some (22, 0, a2))), some (vR (some (2, n3, a3))), some (vI x4), some (vI x5), some (vI xs0)], [vI z], h1) r) : Ev (d + 1) mL_law (437, [some (vR (some (5, n0, a0))), some (vR (some (21, 0, a1))), some (vR (some (22, 0, a2))), some (vR (some (2, n3, a3))), some (vI x4), some (vI x5), none], [vI xs0], h) r :=
  s_istore [some (vR (some (5, n0, a0))), some (vR (some (21, 0, a1))), some (vR (some (22, 0, a2))), some (vR (some (2, n3, a3))), some (vI x4), some (vI x5), some (vI xs0)] rfl rfl <|
  s_aload_n rfl rfl rfl <|
  s_cvI rfl rfl rfl rfl rfl c k
theorem b5_L_law_443 {d : Nat} {r : PO × PM} {h : PM} {n0 a0 a1 a2 n3 a3 : Nat} {x4 x5 x6 xs0 : Int} (kt : xs0 = x5 → Ev d mL_law (450, [some (vR (some (5, n0, a0))), some (vR (some (21, 0, a1))), some (vR (some (22, 0, a2))), some (vR (some (2, n3, a3))), some (vI x4), some (vI x5), some (vI x6)], [], h) r) (kf : xs0 ≠ x5 → Ev d mL_law (448, [some (vR (some (5, n0, a0))), some (vR (some (21, 0, a1))), some (vR (some (22, 0, a2))), some (vR (some (2, n3, a3))), some (vI x4), some (vI x5), some (vI x6)], [], h) r) : Ev d mL_law (443, [some (vR (some (5, n0, a0))), some (vR (some (21, 0, a1))), some (vR (some (22, 0, a2))), some (vR (some (2, n3, a3))), some (vI x4), some (vI x5), some (vI x6)], [vI xs0], h) r :=
  s_iload rfl rfl rfl <|
  s_icmp_eq 450 rfl rfl kt kf
theorem b5_L_law_448 {d : Nat} {h : PM} {n0 a0 a1 a2 n3 a3 : Nat} {x4 x5 x6 : Int} : Ev d mL_law (448, [some (vR (some (5, n0, a0))), some (vR (some (21, 0, a1))), some (vR (some (22, 0, a2))), some (vR (some (2, n3, a3))), some (vI x4), some (vI x5), some (vI x6)], [], h) (.inl (some (vI 0)), h) :=
  s_iconst rfl rfl <|
  s_ret rfl rfl
theorem b5_L_law_450 {d : Nat} {r : PO × PM} {h : PM} {n0 a0 a1 a2 n3 a3 : Nat} {x4 x5 x6 : Int} (kt : x5 ≠ 0 → Ev d mL_law (467, [some (vR (some (5, n0, a0))), some (vR (some (21, 0, a1))), some (vR (some (22, 0, a2))), some (vR (some (2, n3, a3))), some (vI x4), some (vI x5), some (vI x6)], [], h) r) (kf : x5 = 0 → Ev d mL_law (455, [some (vR (some (5, n0, a0))), some (vR (some (21, 0, a1))), some (vR (some (22, 0, a2))), some (vR (some (2, n3, a3))), some (vI x4), some (vI x5), some (vI x6)], [], h) r) : Ev d mL_law (450, [some (vR (some (5, n0, a0))), some (vR (some (21, 0, a1))), some (vR (some (22, 0, a2))), some (vR (some (2, n3, a3))), some (vI x4), some (vI x5), some (vI x6)], [], h) r :=
  s_iload rfl rfl rfl <|
  s_if_ne 467 rfl rfl kt kf
theorem b5_L_law_455 {d : Nat} {r : PO × PM} {h : PM} {n0 a0 a1 a2 n3 a3 : Nat} {x4 x5 x6 : Int} (hi1 : 0 < n3) (kt : p_lcmp (h.1 a3 0) (p_i2l x6) = 0 → Ev d mL_law (467, [some (vR (some (5, n0, a0))), some (vR (some (21, 0, a1))), some (vR (some (22, 0, a2))), some (vR (some (2, n3, a3))), some (vI x4), some (vI x5), some (vI x6)], [], h) r) (kf : p_lcmp (h.1 a3 0) (p_i2l x6) ≠ 0 → Ev d mL_law (465, [some (vR (some (5, n0, a0))), some (vR (some (21, 0, a1))), some (vR (some (22, 0, a2))), some (vR (some (2, n3, a3))), some (vI x4), some (vI x5), some (vI x6)], [], h) r) : Ev d mL_law (455, [some (vR (some (5, n0, a0))), some (vR (some (21, 0, a1))), some (vR (some (22, 0, a2))), some (vR (some (2, n3, a3))), some (vI x4), some (vI x5), some (vI x6)], [], h) r :=
  s_aload_n rfl rfl rfl <|
  s_iconst rfl rfl <|
  s_lald rfl rfl (p_lit (k := 0) hi1) <|
  s_iload rfl rfl rfl <|
  s_i2l rfl <|
  s_lcmp rfl <|
  s_if_eq 467 rfl rfl kt kf
theorem b5_L_law_465 {d : Nat} {h : PM} {n0 a0 a1 a2 n3 a3 : Nat} {x4 x5 x6 : Int} : Ev d mL_law (465, [some (vR (some (5, n0, a0))), some (vR (some (21, 0, a1))), some (vR (some (22, 0, a2))), some (vR (some (2, n3, a3))), some (vI x4), some (vI x5), some (vI x6)], [], h) (.inl (some (vI 0)), h) :=
  s_iconst rfl rfl <|
  s_ret rfl rfl
theorem b5_L_law_467 {d : Nat} {r : PO × PM} {h : PM} {n0 a0 a1 a2 n3 a3 : Nat} {x4 x5 x6 : Int} (k : Ev d mL_law (2427, [some (vR (some (5, n0, a0))), some (vR (some (21, 0, a1))), some (vR (some (22, 0, a2))), some (vR (some (2, n3, a3))), some (vI x4), none, none], [], h) r) : Ev d mL_law (467, [some (vR (some (5, n0, a0))), some (vR (some (21, 0, a1))), some (vR (some (22, 0, a2))), some (vR (some (2, n3, a3))), some (vI x4), some (vI x5), some (vI x6)], [], h) r :=
  s_goto 2427 rfl rfl (ev_forget [false, false, false, false, false, true, true] rfl k)
theorem b5_L_law_470 {d : Nat} {r : PO × PM} {h : PM} {n0 a0 a1 a2 n3 a3 : Nat} {x4 z : Int} {h1 : PM} (ho1 : -2147483648 ≤ x4 + 1 ∧ x4 + 1 ≤ 2147483647) (hi2 : 0 ≤ x4 + 1 ∧ x4 + 1 < (n0 : Nat)) (ho3 : -2147483648 ≤ x4 + 2 ∧ x4 + 2 ≤ 2147483647) (hi4 : 0 ≤ x4 + 2 ∧ x4 + 2 < (n0 : Nat)) (c : Ca d mL_vertex [vR (some (21, 0, a1)), vI (h.1 a0 (x4 + 1).toNat), vI (h.1 a0 (x4 + 2).toNat), vR (some (2, n3, a3))] h (.inl (some (vI z))) h1) (k : Ev (d + 1) mL_law (487, [some (vR (some (5, n0, a0))), some (vR (some (21, 0, a1))), some (vR (some (22, 0, a2))), some (vR (some (2, n3, a3))), some (vI x4), none, none], [vI z], h1) r) : Ev (d + 1) mL_law (470, [some (vR (some (5, n0, a0))), some (vR (some (21, 0, a1))), some (vR (some (22, 0, a2))), some (vR (some (2, n3, a3))), some (vI x4), none, none], [], h) r :=
  s_aload_n rfl rfl rfl <|
  s_aload_n rfl rfl rfl <|
  s_iload rfl rfl rfl <|
  s_iconst rfl rfl <|
  s_iaddp rfl ho1 <|
  s_iald rfl rfl hi2 <|
  s_aload_n rfl rfl rfl <|
  s_iload rfl rfl rfl <|
  s_iconst rfl rfl <|
  s_iaddp rfl ho3 <|
  s_iald rfl rfl hi4 <|
  s_aload_n rfl rfl rfl <|
  s_csI rfl rfl rfl rfl rfl rfl c k
theorem b5_L_law_487 {d : Nat} {r : PO × PM} {h : PM} {n0 a0 a1 a2 n3 a3 : Nat} {x4 xs0 z : Int} {h1 : PM} (ho1 : -2147483648 ≤ x4 + 1 ∧ x4 + 1 ≤ 2147483647) (hi2 : 0 ≤ x4 + 1 ∧ x4 + 1 < (n0 : Nat)) (ho3 : -2147483648 ≤ x4 + 2 ∧ x4 + 2 ≤ 2147483647) (hi4 : 0 ≤ x4 + 2 ∧ x4 + 2 < (n0 : Nat)) (c : Ca d mX12_vertex [vR (some (22, 0, a2)), vI (h.1 a0 (x4 + 1).toNat), vI (h.1 a0 (x4 + 2).toNat)] h (.inl (some (vI z))) h1) (k : Ev (d + 1) mL_law (505, [some (vR (some (5, n0, a0))), some (vR (some (21, 0, a1))), some (vR (some (22, 0, a2))), some (vR (some (2, n3, a3))), some (vI x4), some (vI xs0), none], [vI z], h1) r) : Ev (d + 1) mL_law (487, [some (vR (some (5, n0, a0))), some (vR (some (21, 0, a1))), some (vR (some (22, 0, a2))), some (vR (some (2, n3, a3))), some (vI x4), none, none], [vI xs0], h) r :=
  s_istore [some (vR (some (5, n0, a0))), some (vR (some (21, 0, a1))), some (vR (some (22, 0, a2))), some (vR (some (2, n3, a3))), some (vI x4), some (vI xs0), none] rfl rfl <|
  s_aload_n rfl rfl rfl <|
  s_aload_n rfl rfl rfl <|
  s_iload rfl rfl rfl <|
  s_iconst rfl rfl <|
  s_iaddp rfl ho1 <|
  s_iald rfl rfl hi2 <|
  s_aload_n rfl rfl rfl <|
  s_iload rfl rfl rfl <|
  s_iconst rfl rfl <|
  s_iaddp rfl ho3 <|
  s_iald rfl rfl hi4 <|
  s_cvI rfl rfl rfl rfl rfl c k
theorem b5_L_law_505 {d : Nat} {r : PO × PM} {h : PM} {n0 a0 a1 a2 n3 a3 : Nat} {x4 x5 xs0 z : Int} {h1 : PM} (c : Ca d mX12_thrown [vR (some (22, 0, a2))] h (.inl (some (vI z))) h1) (k : Ev (d + 1) mL_law (511, [some (vR (some (5, n0, a0))), some (vR (some (21, 0, a1))), some (vR (some (22, 0, a2))), some (vR (some (2, n3, a3))), some (vI x4), some (vI x5), some (vI xs0)], [vI z], h1) r) : Ev (d + 1) mL_law (505, [some (vR (some (5, n0, a0))), some (vR (some (21, 0, a1))), some (vR (some (22, 0, a2))), some (vR (some (2, n3, a3))), some (vI x4), some (vI x5), none], [vI xs0], h) r :=
  s_istore [some (vR (some (5, n0, a0))), some (vR (some (21, 0, a1))), some (vR (some (22, 0, a2))), some (vR (some (2, n3, a3))), some (vI x4), some (vI x5), some (vI xs0)] rfl rfl <|
  s_aload_n rfl rfl rfl <|
  s_cvI rfl rfl rfl rfl rfl c k
theorem b5_L_law_511 {d : Nat} {r : PO × PM} {h : PM} {n0 a0 a1 a2 n3 a3 : Nat} {x4 x5 x6 xs0 : Int} (kt : xs0 = x5 → Ev d mL_law (518, [some (vR (some (5, n0, a0))), some (vR (some (21, 0, a1))), some (vR (some (22, 0, a2))), some (vR (some (2, n3, a3))), some (vI x4), some (vI x5), some (vI x6)], [], h) r) (kf : xs0 ≠ x5 → Ev d mL_law (516, [some (vR (some (5, n0, a0))), some (vR (some (21, 0, a1))), some (vR (some (22, 0, a2))), some (vR (some (2, n3, a3))), some (vI x4), some (vI x5), some (vI x6)], [], h) r) : Ev d mL_law (511, [some (vR (some (5, n0, a0))), some (vR (some (21, 0, a1))), some (vR (some (22, 0, a2))), some (vR (some (2, n3, a3))), some (vI x4), some (vI x5), some (vI x6)], [vI xs0], h) r :=
  s_iload rfl rfl rfl <|
  s_icmp_eq 518 rfl rfl kt kf
theorem b5_L_law_516 {d : Nat} {h : PM} {n0 a0 a1 a2 n3 a3 : Nat} {x4 x5 x6 : Int} : Ev d mL_law (516, [some (vR (some (5, n0, a0))), some (vR (some (21, 0, a1))), some (vR (some (22, 0, a2))), some (vR (some (2, n3, a3))), some (vI x4), some (vI x5), some (vI x6)], [], h) (.inl (some (vI 0)), h) :=
  s_iconst rfl rfl <|
  s_ret rfl rfl
theorem b5_L_law_518 {d : Nat} {r : PO × PM} {h : PM} {n0 a0 a1 a2 n3 a3 : Nat} {x4 x5 x6 : Int} (kt : x5 ≠ 0 → Ev d mL_law (535, [some (vR (some (5, n0, a0))), some (vR (some (21, 0, a1))), some (vR (some (22, 0, a2))), some (vR (some (2, n3, a3))), some (vI x4), some (vI x5), some (vI x6)], [], h) r) (kf : x5 = 0 → Ev d mL_law (523, [some (vR (some (5, n0, a0))), some (vR (some (21, 0, a1))), some (vR (some (22, 0, a2))), some (vR (some (2, n3, a3))), some (vI x4), some (vI x5), some (vI x6)], [], h) r) : Ev d mL_law (518, [some (vR (some (5, n0, a0))), some (vR (some (21, 0, a1))), some (vR (some (22, 0, a2))), some (vR (some (2, n3, a3))), some (vI x4), some (vI x5), some (vI x6)], [], h) r :=
  s_iload rfl rfl rfl <|
  s_if_ne 535 rfl rfl kt kf
theorem b5_L_law_523 {d : Nat} {r : PO × PM} {h : PM} {n0 a0 a1 a2 n3 a3 : Nat} {x4 x5 x6 : Int} (hi1 : 0 < n3) (kt : p_lcmp (h.1 a3 0) (p_i2l x6) = 0 → Ev d mL_law (535, [some (vR (some (5, n0, a0))), some (vR (some (21, 0, a1))), some (vR (some (22, 0, a2))), some (vR (some (2, n3, a3))), some (vI x4), some (vI x5), some (vI x6)], [], h) r) (kf : p_lcmp (h.1 a3 0) (p_i2l x6) ≠ 0 → Ev d mL_law (533, [some (vR (some (5, n0, a0))), some (vR (some (21, 0, a1))), some (vR (some (22, 0, a2))), some (vR (some (2, n3, a3))), some (vI x4), some (vI x5), some (vI x6)], [], h) r) : Ev d mL_law (523, [some (vR (some (5, n0, a0))), some (vR (some (21, 0, a1))), some (vR (some (22, 0, a2))), some (vR (some (2, n3, a3))), some (vI x4), some (vI x5), some (vI x6)], [], h) r :=
  s_aload_n rfl rfl rfl <|
  s_iconst rfl rfl <|
  s_lald rfl rfl (p_lit (k := 0) hi1) <|
  s_iload rfl rfl rfl <|
  s_i2l rfl <|
  s_lcmp rfl <|
  s_if_eq 535 rfl rfl kt kf
theorem b5_L_law_533 {d : Nat} {h : PM} {n0 a0 a1 a2 n3 a3 : Nat} {x4 x5 x6 : Int} : Ev d mL_law (533, [some (vR (some (5, n0, a0))), some (vR (some (21, 0, a1))), some (vR (some (22, 0, a2))), some (vR (some (2, n3, a3))), some (vI x4), some (vI x5), some (vI x6)], [], h) (.inl (some (vI 0)), h) :=
  s_iconst rfl rfl <|
  s_ret rfl rfl
theorem b5_L_law_535 {d : Nat} {r : PO × PM} {h : PM} {n0 a0 a1 a2 n3 a3 : Nat} {x4 x5 x6 : Int} (k : Ev d mL_law (2427, [some (vR (some (5, n0, a0))), some (vR (some (21, 0, a1))), some (vR (some (22, 0, a2))), some (vR (some (2, n3, a3))), some (vI x4), none, none], [], h) r) : Ev d mL_law (535, [some (vR (some (5, n0, a0))), some (vR (some (21, 0, a1))), some (vR (some (22, 0, a2))), some (vR (some (2, n3, a3))), some (vI x4), some (vI x5), some (vI x6)], [], h) r :=
  s_goto 2427 rfl rfl (ev_forget [false, false, false, false, false, true, true] rfl k)
theorem b5_L_law_538 {d : Nat} {r : PO × PM} {h : PM} {n0 a0 a1 a2 n3 a3 : Nat} {x4 z : Int} {h1 : PM} (ho1 : -2147483648 ≤ x4 + 1 ∧ x4 + 1 ≤ 2147483647) (hi2 : 0 ≤ x4 + 1 ∧ x4 + 1 < (n0 : Nat)) (ho3 : -2147483648 ≤ x4 + 2 ∧ x4 + 2 ≤ 2147483647) (hi4 : 0 ≤ x4 + 2 ∧ x4 + 2 < (n0 : Nat)) (ho5 : -2147483648 ≤ x4 + 3 ∧ x4 + 3 ≤ 2147483647) (hi6 : 0 ≤ x4 + 3 ∧ x4 + 3 < (n0 : Nat)) (c : Ca d mL_colour [vR (some (21, 0, a1)), vI (h.1 a0 (x4 + 1).toNat), vI (h.1 a0 (x4 + 2).toNat), vI (h.1 a0 (x4 + 3).toNat), vR (some (2, n3, a3))] h (.inl (some (vI z))) h1) (k : Ev (d + 1) mL_law (561, [some (vR (some (5, n0, a0))), some (vR (some (21, 0, a1))), some (vR (some (22, 0, a2))), some (vR (some (2, n3, a3))), some (vI x4), none, none], [vI z], h1) r) : Ev (d + 1) mL_law (538, [some (vR (some (5, n0, a0))), some (vR (some (21, 0, a1))), some (vR (some (22, 0, a2))), some (vR (some (2, n3, a3))), some (vI x4), none, none], [], h) r :=
  s_aload_n rfl rfl rfl <|
  s_aload_n rfl rfl rfl <|
  s_iload rfl rfl rfl <|
  s_iconst rfl rfl <|
  s_iaddp rfl ho1 <|
  s_iald rfl rfl hi2 <|
  s_aload_n rfl rfl rfl <|
  s_iload rfl rfl rfl <|
  s_iconst rfl rfl <|
  s_iaddp rfl ho3 <|
  s_iald rfl rfl hi4 <|
  s_aload_n rfl rfl rfl <|
  s_iload rfl rfl rfl <|
  s_iconst rfl rfl <|
  s_iaddp rfl ho5 <|
  s_iald rfl rfl hi6 <|
  s_aload_n rfl rfl rfl <|
  s_csI rfl rfl rfl rfl rfl rfl c k
theorem b5_L_law_561 {d : Nat} {r : PO × PM} {h : PM} {n0 a0 a1 a2 n3 a3 : Nat} {x4 xs0 z : Int} {h1 : PM} (ho1 : -2147483648 ≤ x4 + 1 ∧ x4 + 1 ≤ 2147483647) (hi2 : 0 ≤ x4 + 1 ∧ x4 + 1 < (n0 : Nat)) (ho3 : -2147483648 ≤ x4 + 2 ∧ x4 + 2 ≤ 2147483647) (hi4 : 0 ≤ x4 + 2 ∧ x4 + 2 < (n0 : Nat)) (ho5 : -2147483648 ≤ x4 + 3 ∧ x4 + 3 ≤ 2147483647) (hi6 : 0 ≤ x4 + 3 ∧ x4 + 3 < (n0 : Nat)) (c : Ca d mX12_colour [vR (some (22, 0, a2)), vI (h.1 a0 (x4 + 1).toNat), vI (h.1 a0 (x4 + 2).toNat), vI (h.1 a0 (x4 + 3).toNat)] h (.inl (some (vI z))) h1) (k : Ev (d + 1) mL_law (585, [some (vR (some (5, n0, a0))), some (vR (some (21, 0, a1))), some (vR (some (22, 0, a2))), some (vR (some (2, n3, a3))), some (vI x4), some (vI xs0), none], [vI z], h1) r) : Ev (d + 1) mL_law (561, [some (vR (some (5, n0, a0))), some (vR (some (21, 0, a1))), some (vR (some (22, 0, a2))), some (vR (some (2, n3, a3))), some (vI x4), none, none], [vI xs0], h) r :=
  s_istore [some (vR (some (5, n0, a0))), some (vR (some (21, 0, a1))), some (vR (some (22, 0, a2))), some (vR (some (2, n3, a3))), some (vI x4), some (vI xs0), none] rfl rfl <|
  s_aload_n rfl rfl rfl <|
  s_aload_n rfl rfl rfl <|
  s_iload rfl rfl rfl <|
  s_iconst rfl rfl <|
  s_iaddp rfl ho1 <|
  s_iald rfl rfl hi2 <|
  s_aload_n rfl rfl rfl <|
  s_iload rfl rfl rfl <|
  s_iconst rfl rfl <|
  s_iaddp rfl ho3 <|
  s_iald rfl rfl hi4 <|
  s_aload_n rfl rfl rfl <|
  s_iload rfl rfl rfl <|
  s_iconst rfl rfl <|
  s_iaddp rfl ho5 <|
  s_iald rfl rfl hi6 <|
  s_cvI rfl rfl rfl rfl rfl c k
theorem b5_L_law_585 {d : Nat} {r : PO × PM} {h : PM} {n0 a0 a1 a2 n3 a3 : Nat} {x4 x5 xs0 z : Int} {h1 : PM} (c : Ca d mX12_thrown [vR (some (22, 0, a2))] h (.inl (some (vI z))) h1) (k : Ev (d + 1) mL_law (591, [some (vR (some (5, n0, a0))), some (vR (some (21, 0, a1))), some (vR (some (22, 0, a2))), some (vR (some (2, n3, a3))), some (vI x4), some (vI x5), some (vI xs0)], [vI z], h1) r) : Ev (d + 1) mL_law (585, [some (vR (some (5, n0, a0))), some (vR (some (21, 0, a1))), some (vR (some (22, 0, a2))), some (vR (some (2, n3, a3))), some (vI x4), some (vI x5), none], [vI xs0], h) r :=
  s_istore [some (vR (some (5, n0, a0))), some (vR (some (21, 0, a1))), some (vR (some (22, 0, a2))), some (vR (some (2, n3, a3))), some (vI x4), some (vI x5), some (vI xs0)] rfl rfl <|
  s_aload_n rfl rfl rfl <|
  s_cvI rfl rfl rfl rfl rfl c k
theorem b5_L_law_591 {d : Nat} {r : PO × PM} {h : PM} {n0 a0 a1 a2 n3 a3 : Nat} {x4 x5 x6 xs0 : Int} (kt : xs0 = x5 → Ev d mL_law (598, [some (vR (some (5, n0, a0))), some (vR (some (21, 0, a1))), some (vR (some (22, 0, a2))), some (vR (some (2, n3, a3))), some (vI x4), some (vI x5), some (vI x6)], [], h) r) (kf : xs0 ≠ x5 → Ev d mL_law (596, [some (vR (some (5, n0, a0))), some (vR (some (21, 0, a1))), some (vR (some (22, 0, a2))), some (vR (some (2, n3, a3))), some (vI x4), some (vI x5), some (vI x6)], [], h) r) : Ev d mL_law (591, [some (vR (some (5, n0, a0))), some (vR (some (21, 0, a1))), some (vR (some (22, 0, a2))), some (vR (some (2, n3, a3))), some (vI x4), some (vI x5), some (vI x6)], [vI xs0], h) r :=
  s_iload rfl rfl rfl <|
  s_icmp_eq 598 rfl rfl kt kf
theorem b5_L_law_596 {d : Nat} {h : PM} {n0 a0 a1 a2 n3 a3 : Nat} {x4 x5 x6 : Int} : Ev d mL_law (596, [some (vR (some (5, n0, a0))), some (vR (some (21, 0, a1))), some (vR (some (22, 0, a2))), some (vR (some (2, n3, a3))), some (vI x4), some (vI x5), some (vI x6)], [], h) (.inl (some (vI 0)), h) :=
  s_iconst rfl rfl <|
  s_ret rfl rfl
theorem b5_L_law_598 {d : Nat} {r : PO × PM} {h : PM} {n0 a0 a1 a2 n3 a3 : Nat} {x4 x5 x6 : Int} (kt : x5 ≠ 0 → Ev d mL_law (615, [some (vR (some (5, n0, a0))), some (vR (some (21, 0, a1))), some (vR (some (22, 0, a2))), some (vR (some (2, n3, a3))), some (vI x4), some (vI x5), some (vI x6)], [], h) r) (kf : x5 = 0 → Ev d mL_law (603, [some (vR (some (5, n0, a0))), some (vR (some (21, 0, a1))), some (vR (some (22, 0, a2))), some (vR (some (2, n3, a3))), some (vI x4), some (vI x5), some (vI x6)], [], h) r) : Ev d mL_law (598, [some (vR (some (5, n0, a0))), some (vR (some (21, 0, a1))), some (vR (some (22, 0, a2))), some (vR (some (2, n3, a3))), some (vI x4), some (vI x5), some (vI x6)], [], h) r :=
  s_iload rfl rfl rfl <|
  s_if_ne 615 rfl rfl kt kf
theorem b5_L_law_603 {d : Nat} {r : PO × PM} {h : PM} {n0 a0 a1 a2 n3 a3 : Nat} {x4 x5 x6 : Int} (hi1 : 0 < n3) (kt : p_lcmp (h.1 a3 0) (p_i2l x6) = 0 → Ev d mL_law (615, [some (vR (some (5, n0, a0))), some (vR (some (21, 0, a1))), some (vR (some (22, 0, a2))), some (vR (some (2, n3, a3))), some (vI x4), some (vI x5), some (vI x6)], [], h) r) (kf : p_lcmp (h.1 a3 0) (p_i2l x6) ≠ 0 → Ev d mL_law (613, [some (vR (some (5, n0, a0))), some (vR (some (21, 0, a1))), some (vR (some (22, 0, a2))), some (vR (some (2, n3, a3))), some (vI x4), some (vI x5), some (vI x6)], [], h) r) : Ev d mL_law (603, [some (vR (some (5, n0, a0))), some (vR (some (21, 0, a1))), some (vR (some (22, 0, a2))), some (vR (some (2, n3, a3))), some (vI x4), some (vI x5), some (vI x6)], [], h) r :=
  s_aload_n rfl rfl rfl <|
  s_iconst rfl rfl <|
  s_lald rfl rfl (p_lit (k := 0) hi1) <|
  s_iload rfl rfl rfl <|
  s_i2l rfl <|
  s_lcmp rfl <|
  s_if_eq 615 rfl rfl kt kf
theorem b5_L_law_613 {d : Nat} {h : PM} {n0 a0 a1 a2 n3 a3 : Nat} {x4 x5 x6 : Int} : Ev d mL_law (613, [some (vR (some (5, n0, a0))), some (vR (some (21, 0, a1))), some (vR (some (22, 0, a2))), some (vR (some (2, n3, a3))), some (vI x4), some (vI x5), some (vI x6)], [], h) (.inl (some (vI 0)), h) :=
  s_iconst rfl rfl <|
  s_ret rfl rfl
theorem b5_L_law_615 {d : Nat} {r : PO × PM} {h : PM} {n0 a0 a1 a2 n3 a3 : Nat} {x4 x5 x6 : Int} (k : Ev d mL_law (2427, [some (vR (some (5, n0, a0))), some (vR (some (21, 0, a1))), some (vR (some (22, 0, a2))), some (vR (some (2, n3, a3))), some (vI x4), none, none], [], h) r) : Ev d mL_law (615, [some (vR (some (5, n0, a0))), some (vR (some (21, 0, a1))), some (vR (some (22, 0, a2))), some (vR (some (2, n3, a3))), some (vI x4), some (vI x5), some (vI x6)], [], h) r :=
  s_goto 2427 rfl rfl (ev_forget [false, false, false, false, false, true, true] rfl k)
theorem b5_L_law_618 {d : Nat} {r : PO × PM} {h : PM} {n0 a0 a1 a2 n3 a3 : Nat} {x4 z : Int} {h1 : PM} (ho1 : -2147483648 ≤ x4 + 1 ∧ x4 + 1 ≤ 2147483647) (hi2 : 0 ≤ x4 + 1 ∧ x4 + 1 < (n0 : Nat)) (ho3 : -2147483648 ≤ x4 + 2 ∧ x4 + 2 ≤ 2147483647) (hi4 : 0 ≤ x4 + 2 ∧ x4 + 2 < (n0 : Nat)) (c : Ca d mL_named [vR (some (21, 0, a1)), vI (h.1 a0 (x4 + 1).toNat), vI (h.1 a0 (x4 + 2).toNat), vR (some (2, n3, a3))] h (.inl (some (vI z))) h1) (k : Ev (d + 1) mL_law (635, [some (vR (some (5, n0, a0))), some (vR (some (21, 0, a1))), some (vR (some (22, 0, a2))), some (vR (some (2, n3, a3))), some (vI x4), none, none], [vI z], h1) r) : Ev (d + 1) mL_law (618, [some (vR (some (5, n0, a0))), some (vR (some (21, 0, a1))), some (vR (some (22, 0, a2))), some (vR (some (2, n3, a3))), some (vI x4), none, none], [], h) r :=
  s_aload_n rfl rfl rfl <|
  s_aload_n rfl rfl rfl <|
  s_iload rfl rfl rfl <|
  s_iconst rfl rfl <|
  s_iaddp rfl ho1 <|
  s_iald rfl rfl hi2 <|
  s_aload_n rfl rfl rfl <|
  s_iload rfl rfl rfl <|
  s_iconst rfl rfl <|
  s_iaddp rfl ho3 <|
  s_iald rfl rfl hi4 <|
  s_aload_n rfl rfl rfl <|
  s_csI rfl rfl rfl rfl rfl rfl c k
theorem b5_L_law_635 {d : Nat} {r : PO × PM} {h : PM} {n0 a0 a1 a2 n3 a3 : Nat} {x4 xs0 z : Int} {h1 : PM} (ho1 : -2147483648 ≤ x4 + 1 ∧ x4 + 1 ≤ 2147483647) (hi2 : 0 ≤ x4 + 1 ∧ x4 + 1 < (n0 : Nat)) (ho3 : -2147483648 ≤ x4 + 2 ∧ x4 + 2 ≤ 2147483647) (hi4 : 0 ≤ x4 + 2 ∧ x4 + 2 < (n0 : Nat)) (c : Ca d mX12_named [vR (some (22, 0, a2)), vI (h.1 a0 (x4 + 1).toNat), vI (h.1 a0 (x4 + 2).toNat)] h (.inl (some (vI z))) h1) (k : Ev (d + 1) mL_law (653, [some (vR (some (5, n0, a0))), some (vR (some (21, 0, a1))), some (vR (some (22, 0, a2))), some (vR (some (2, n3, a3))), some (vI x4), some (vI xs0), none], [vI z], h1) r) : Ev (d + 1) mL_law (635, [some (vR (some (5, n0, a0))), some (vR (some (21, 0, a1))), some (vR (some (22, 0, a2))), some (vR (some (2, n3, a3))), some (vI x4), none, none], [vI xs0], h) r :=
  s_istore [some (vR (some (5, n0, a0))), some (vR (some (21, 0, a1))), some (vR (some (22, 0, a2))), some (vR (some (2, n3, a3))), some (vI x4), some (vI xs0), none] rfl rfl <|
  s_aload_n rfl rfl rfl <|
  s_aload_n rfl rfl rfl <|
  s_iload rfl rfl rfl <|
  s_iconst rfl rfl <|
  s_iaddp rfl ho1 <|
  s_iald rfl rfl hi2 <|
  s_aload_n rfl rfl rfl <|
  s_iload rfl rfl rfl <|
  s_iconst rfl rfl <|
  s_iaddp rfl ho3 <|
  s_iald rfl rfl hi4 <|
  s_cvI rfl rfl rfl rfl rfl c k
theorem b5_L_law_653 {d : Nat} {r : PO × PM} {h : PM} {n0 a0 a1 a2 n3 a3 : Nat} {x4 x5 xs0 z : Int} {h1 : PM} (c : Ca d mX12_thrown [vR (some (22, 0, a2))] h (.inl (some (vI z))) h1) (k : Ev (d + 1) mL_law (659, [some (vR (some (5, n0, a0))), some (vR (some (21, 0, a1))), some (vR (some (22, 0, a2))), some (vR (some (2, n3, a3))), some (vI x4), some (vI x5), some (vI xs0)], [vI z], h1) r) : Ev (d + 1) mL_law (653, [some (vR (some (5, n0, a0))), some (vR (some (21, 0, a1))), some (vR (some (22, 0, a2))), some (vR (some (2, n3, a3))), some (vI x4), some (vI x5), none], [vI xs0], h) r :=
  s_istore [some (vR (some (5, n0, a0))), some (vR (some (21, 0, a1))), some (vR (some (22, 0, a2))), some (vR (some (2, n3, a3))), some (vI x4), some (vI x5), some (vI xs0)] rfl rfl <|
  s_aload_n rfl rfl rfl <|
  s_cvI rfl rfl rfl rfl rfl c k
theorem b5_L_law_659 {d : Nat} {r : PO × PM} {h : PM} {n0 a0 a1 a2 n3 a3 : Nat} {x4 x5 x6 xs0 : Int} (kt : xs0 = x5 → Ev d mL_law (666, [some (vR (some (5, n0, a0))), some (vR (some (21, 0, a1))), some (vR (some (22, 0, a2))), some (vR (some (2, n3, a3))), some (vI x4), some (vI x5), some (vI x6)], [], h) r) (kf : xs0 ≠ x5 → Ev d mL_law (664, [some (vR (some (5, n0, a0))), some (vR (some (21, 0, a1))), some (vR (some (22, 0, a2))), some (vR (some (2, n3, a3))), some (vI x4), some (vI x5), some (vI x6)], [], h) r) : Ev d mL_law (659, [some (vR (some (5, n0, a0))), some (vR (some (21, 0, a1))), some (vR (some (22, 0, a2))), some (vR (some (2, n3, a3))), some (vI x4), some (vI x5), some (vI x6)], [vI xs0], h) r :=
  s_iload rfl rfl rfl <|
  s_icmp_eq 666 rfl rfl kt kf
theorem b5_L_law_664 {d : Nat} {h : PM} {n0 a0 a1 a2 n3 a3 : Nat} {x4 x5 x6 : Int} : Ev d mL_law (664, [some (vR (some (5, n0, a0))), some (vR (some (21, 0, a1))), some (vR (some (22, 0, a2))), some (vR (some (2, n3, a3))), some (vI x4), some (vI x5), some (vI x6)], [], h) (.inl (some (vI 0)), h) :=
  s_iconst rfl rfl <|
  s_ret rfl rfl
theorem b5_L_law_666 {d : Nat} {r : PO × PM} {h : PM} {n0 a0 a1 a2 n3 a3 : Nat} {x4 x5 x6 : Int} (kt : x5 ≠ 0 → Ev d mL_law (683, [some (vR (some (5, n0, a0))), some (vR (some (21, 0, a1))), some (vR (some (22, 0, a2))), some (vR (some (2, n3, a3))), some (vI x4), some (vI x5), some (vI x6)], [], h) r) (kf : x5 = 0 → Ev d mL_law (671, [some (vR (some (5, n0, a0))), some (vR (some (21, 0, a1))), some (vR (some (22, 0, a2))), some (vR (some (2, n3, a3))), some (vI x4), some (vI x5), some (vI x6)], [], h) r) : Ev d mL_law (666, [some (vR (some (5, n0, a0))), some (vR (some (21, 0, a1))), some (vR (some (22, 0, a2))), some (vR (some (2, n3, a3))), some (vI x4), some (vI x5), some (vI x6)], [], h) r :=
  s_iload rfl rfl rfl <|
  s_if_ne 683 rfl rfl kt kf
theorem b5_L_law_671 {d : Nat} {r : PO × PM} {h : PM} {n0 a0 a1 a2 n3 a3 : Nat} {x4 x5 x6 : Int} (hi1 : 0 < n3) (kt : p_lcmp (h.1 a3 0) (p_i2l x6) = 0 → Ev d mL_law (683, [some (vR (some (5, n0, a0))), some (vR (some (21, 0, a1))), some (vR (some (22, 0, a2))), some (vR (some (2, n3, a3))), some (vI x4), some (vI x5), some (vI x6)], [], h) r) (kf : p_lcmp (h.1 a3 0) (p_i2l x6) ≠ 0 → Ev d mL_law (681, [some (vR (some (5, n0, a0))), some (vR (some (21, 0, a1))), some (vR (some (22, 0, a2))), some (vR (some (2, n3, a3))), some (vI x4), some (vI x5), some (vI x6)], [], h) r) : Ev d mL_law (671, [some (vR (some (5, n0, a0))), some (vR (some (21, 0, a1))), some (vR (some (22, 0, a2))), some (vR (some (2, n3, a3))), some (vI x4), some (vI x5), some (vI x6)], [], h) r :=
  s_aload_n rfl rfl rfl <|
  s_iconst rfl rfl <|
  s_lald rfl rfl (p_lit (k := 0) hi1) <|
  s_iload rfl rfl rfl <|
  s_i2l rfl <|
  s_lcmp rfl <|
  s_if_eq 683 rfl rfl kt kf
theorem b5_L_law_681 {d : Nat} {h : PM} {n0 a0 a1 a2 n3 a3 : Nat} {x4 x5 x6 : Int} : Ev d mL_law (681, [some (vR (some (5, n0, a0))), some (vR (some (21, 0, a1))), some (vR (some (22, 0, a2))), some (vR (some (2, n3, a3))), some (vI x4), some (vI x5), some (vI x6)], [], h) (.inl (some (vI 0)), h) :=
  s_iconst rfl rfl <|
  s_ret rfl rfl
theorem b5_L_law_683 {d : Nat} {r : PO × PM} {h : PM} {n0 a0 a1 a2 n3 a3 : Nat} {x4 x5 x6 : Int} (k : Ev d mL_law (2427, [some (vR (some (5, n0, a0))), some (vR (some (21, 0, a1))), some (vR (some (22, 0, a2))), some (vR (some (2, n3, a3))), some (vI x4), none, none], [], h) r) : Ev d mL_law (683, [some (vR (some (5, n0, a0))), some (vR (some (21, 0, a1))), some (vR (some (22, 0, a2))), some (vR (some (2, n3, a3))), some (vI x4), some (vI x5), some (vI x6)], [], h) r :=
  s_goto 2427 rfl rfl (ev_forget [false, false, false, false, false, true, true] rfl k)
theorem b5_L_law_686 {d : Nat} {r : PO × PM} {h : PM} {n0 a0 a1 a2 n3 a3 : Nat} {x4 z : Int} {h1 : PM} (ho1 : -2147483648 ≤ x4 + 1 ∧ x4 + 1 ≤ 2147483647) (hi2 : 0 ≤ x4 + 1 ∧ x4 + 1 < (n0 : Nat)) (ho3 : -2147483648 ≤ x4 + 2 ∧ x4 + 2 ≤ 2147483647) (hi4 : 0 ≤ x4 + 2 ∧ x4 + 2 < (n0 : Nat)) (c : Ca d mL_level [vR (some (21, 0, a1)), vI (h.1 a0 (x4 + 1).toNat), vI (h.1 a0 (x4 + 2).toNat), vR (some (2, n3, a3))] h (.inl (some (vI z))) h1) (k : Ev (d + 1) mL_law (703, [some (vR (some (5, n0, a0))), some (vR (some (21, 0, a1))), some (vR (some (22, 0, a2))), some (vR (some (2, n3, a3))), some (vI x4), none, none], [vI z], h1) r) : Ev (d + 1) mL_law (686, [some (vR (some (5, n0, a0))), some (vR (some (21, 0, a1))), some (vR (some (22, 0, a2))), some (vR (some (2, n3, a3))), some (vI x4), none, none], [], h) r :=
  s_aload_n rfl rfl rfl <|
  s_aload_n rfl rfl rfl <|
  s_iload rfl rfl rfl <|
  s_iconst rfl rfl <|
  s_iaddp rfl ho1 <|
  s_iald rfl rfl hi2 <|
  s_aload_n rfl rfl rfl <|
  s_iload rfl rfl rfl <|
  s_iconst rfl rfl <|
  s_iaddp rfl ho3 <|
  s_iald rfl rfl hi4 <|
  s_aload_n rfl rfl rfl <|
  s_csI rfl rfl rfl rfl rfl rfl c k
theorem b5_L_law_703 {d : Nat} {r : PO × PM} {h : PM} {n0 a0 a1 a2 n3 a3 : Nat} {x4 xs0 z : Int} {h1 : PM} (ho1 : -2147483648 ≤ x4 + 1 ∧ x4 + 1 ≤ 2147483647) (hi2 : 0 ≤ x4 + 1 ∧ x4 + 1 < (n0 : Nat)) (ho3 : -2147483648 ≤ x4 + 2 ∧ x4 + 2 ≤ 2147483647) (hi4 : 0 ≤ x4 + 2 ∧ x4 + 2 < (n0 : Nat)) (c : Ca d mX12_level [vR (some (22, 0, a2)), vI (h.1 a0 (x4 + 1).toNat), vI (h.1 a0 (x4 + 2).toNat)] h (.inl (some (vI z))) h1) (k : Ev (d + 1) mL_law (721, [some (vR (some (5, n0, a0))), some (vR (some (21, 0, a1))), some (vR (some (22, 0, a2))), some (vR (some (2, n3, a3))), some (vI x4), some (vI xs0), none], [vI z], h1) r) : Ev (d + 1) mL_law (703, [some (vR (some (5, n0, a0))), some (vR (some (21, 0, a1))), some (vR (some (22, 0, a2))), some (vR (some (2, n3, a3))), some (vI x4), none, none], [vI xs0], h) r :=
  s_istore [some (vR (some (5, n0, a0))), some (vR (some (21, 0, a1))), some (vR (some (22, 0, a2))), some (vR (some (2, n3, a3))), some (vI x4), some (vI xs0), none] rfl rfl <|
  s_aload_n rfl rfl rfl <|
  s_aload_n rfl rfl rfl <|
  s_iload rfl rfl rfl <|
  s_iconst rfl rfl <|
  s_iaddp rfl ho1 <|
  s_iald rfl rfl hi2 <|
  s_aload_n rfl rfl rfl <|
  s_iload rfl rfl rfl <|
  s_iconst rfl rfl <|
  s_iaddp rfl ho3 <|
  s_iald rfl rfl hi4 <|
  s_cvI rfl rfl rfl rfl rfl c k
theorem b5_L_law_721 {d : Nat} {r : PO × PM} {h : PM} {n0 a0 a1 a2 n3 a3 : Nat} {x4 x5 xs0 z : Int} {h1 : PM} (c : Ca d mX12_thrown [vR (some (22, 0, a2))] h (.inl (some (vI z))) h1) (k : Ev (d + 1) mL_law (727, [some (vR (some (5, n0, a0))), some (vR (some (21, 0, a1))), some (vR (some (22, 0, a2))), some (vR (some (2, n3, a3))), some (vI x4), some (vI x5), some (vI xs0)], [vI z], h1) r) : Ev (d + 1) mL_law (721, [some (vR (some (5, n0, a0))), some (vR (some (21, 0, a1))), some (vR (some (22, 0, a2))), some (vR (some (2, n3, a3))), some (vI x4), some (vI x5), none], [vI xs0], h) r :=
  s_istore [some (vR (some (5, n0, a0))), some (vR (some (21, 0, a1))), some (vR (some (22, 0, a2))), some (vR (some (2, n3, a3))), some (vI x4), some (vI x5), some (vI xs0)] rfl rfl <|
  s_aload_n rfl rfl rfl <|
  s_cvI rfl rfl rfl rfl rfl c k
theorem b5_L_law_727 {d : Nat} {r : PO × PM} {h : PM} {n0 a0 a1 a2 n3 a3 : Nat} {x4 x5 x6 xs0 : Int} (kt : xs0 = x5 → Ev d mL_law (734, [some (vR (some (5, n0, a0))), some (vR (some (21, 0, a1))), some (vR (some (22, 0, a2))), some (vR (some (2, n3, a3))), some (vI x4), some (vI x5), some (vI x6)], [], h) r) (kf : xs0 ≠ x5 → Ev d mL_law (732, [some (vR (some (5, n0, a0))), some (vR (some (21, 0, a1))), some (vR (some (22, 0, a2))), some (vR (some (2, n3, a3))), some (vI x4), some (vI x5), some (vI x6)], [], h) r) : Ev d mL_law (727, [some (vR (some (5, n0, a0))), some (vR (some (21, 0, a1))), some (vR (some (22, 0, a2))), some (vR (some (2, n3, a3))), some (vI x4), some (vI x5), some (vI x6)], [vI xs0], h) r :=
  s_iload rfl rfl rfl <|
  s_icmp_eq 734 rfl rfl kt kf
theorem b5_L_law_732 {d : Nat} {h : PM} {n0 a0 a1 a2 n3 a3 : Nat} {x4 x5 x6 : Int} : Ev d mL_law (732, [some (vR (some (5, n0, a0))), some (vR (some (21, 0, a1))), some (vR (some (22, 0, a2))), some (vR (some (2, n3, a3))), some (vI x4), some (vI x5), some (vI x6)], [], h) (.inl (some (vI 0)), h) :=
  s_iconst rfl rfl <|
  s_ret rfl rfl
theorem b5_L_law_734 {d : Nat} {r : PO × PM} {h : PM} {n0 a0 a1 a2 n3 a3 : Nat} {x4 x5 x6 : Int} (kt : x5 ≠ 0 → Ev d mL_law (751, [some (vR (some (5, n0, a0))), some (vR (some (21, 0, a1))), some (vR (some (22, 0, a2))), some (vR (some (2, n3, a3))), some (vI x4), some (vI x5), some (vI x6)], [], h) r) (kf : x5 = 0 → Ev d mL_law (739, [some (vR (some (5, n0, a0))), some (vR (some (21, 0, a1))), some (vR (some (22, 0, a2))), some (vR (some (2, n3, a3))), some (vI x4), some (vI x5), some (vI x6)], [], h) r) : Ev d mL_law (734, [some (vR (some (5, n0, a0))), some (vR (some (21, 0, a1))), some (vR (some (22, 0, a2))), some (vR (some (2, n3, a3))), some (vI x4), some (vI x5), some (vI x6)], [], h) r :=
  s_iload rfl rfl rfl <|
  s_if_ne 751 rfl rfl kt kf
theorem b5_L_law_739 {d : Nat} {r : PO × PM} {h : PM} {n0 a0 a1 a2 n3 a3 : Nat} {x4 x5 x6 : Int} (hi1 : 0 < n3) (kt : p_lcmp (h.1 a3 0) (p_i2l x6) = 0 → Ev d mL_law (751, [some (vR (some (5, n0, a0))), some (vR (some (21, 0, a1))), some (vR (some (22, 0, a2))), some (vR (some (2, n3, a3))), some (vI x4), some (vI x5), some (vI x6)], [], h) r) (kf : p_lcmp (h.1 a3 0) (p_i2l x6) ≠ 0 → Ev d mL_law (749, [some (vR (some (5, n0, a0))), some (vR (some (21, 0, a1))), some (vR (some (22, 0, a2))), some (vR (some (2, n3, a3))), some (vI x4), some (vI x5), some (vI x6)], [], h) r) : Ev d mL_law (739, [some (vR (some (5, n0, a0))), some (vR (some (21, 0, a1))), some (vR (some (22, 0, a2))), some (vR (some (2, n3, a3))), some (vI x4), some (vI x5), some (vI x6)], [], h) r :=
  s_aload_n rfl rfl rfl <|
  s_iconst rfl rfl <|
  s_lald rfl rfl (p_lit (k := 0) hi1) <|
  s_iload rfl rfl rfl <|
  s_i2l rfl <|
  s_lcmp rfl <|
  s_if_eq 751 rfl rfl kt kf
theorem b5_L_law_749 {d : Nat} {h : PM} {n0 a0 a1 a2 n3 a3 : Nat} {x4 x5 x6 : Int} : Ev d mL_law (749, [some (vR (some (5, n0, a0))), some (vR (some (21, 0, a1))), some (vR (some (22, 0, a2))), some (vR (some (2, n3, a3))), some (vI x4), some (vI x5), some (vI x6)], [], h) (.inl (some (vI 0)), h) :=
  s_iconst rfl rfl <|
  s_ret rfl rfl
theorem b5_L_law_751 {d : Nat} {r : PO × PM} {h : PM} {n0 a0 a1 a2 n3 a3 : Nat} {x4 x5 x6 : Int} (k : Ev d mL_law (2427, [some (vR (some (5, n0, a0))), some (vR (some (21, 0, a1))), some (vR (some (22, 0, a2))), some (vR (some (2, n3, a3))), some (vI x4), none, none], [], h) r) : Ev d mL_law (751, [some (vR (some (5, n0, a0))), some (vR (some (21, 0, a1))), some (vR (some (22, 0, a2))), some (vR (some (2, n3, a3))), some (vI x4), some (vI x5), some (vI x6)], [], h) r :=
  s_goto 2427 rfl rfl (ev_forget [false, false, false, false, false, true, true] rfl k)
theorem b5_L_law_754 {d : Nat} {r : PO × PM} {h : PM} {n0 a0 a1 a2 n3 a3 : Nat} {x4 z : Int} {h1 : PM} (ho1 : -2147483648 ≤ x4 + 1 ∧ x4 + 1 ≤ 2147483647) (hi2 : 0 ≤ x4 + 1 ∧ x4 + 1 < (n0 : Nat)) (ho3 : -2147483648 ≤ x4 + 2 ∧ x4 + 2 ≤ 2147483647) (hi4 : 0 ≤ x4 + 2 ∧ x4 + 2 < (n0 : Nat)) (ho5 : -2147483648 ≤ x4 + 3 ∧ x4 + 3 ≤ 2147483647) (hi6 : 0 ≤ x4 + 3 ∧ x4 + 3 < (n0 : Nat)) (c : Ca d mL_extend [vR (some (21, 0, a1)), vI (h.1 a0 (x4 + 1).toNat), vI (h.1 a0 (x4 + 2).toNat), vI (h.1 a0 (x4 + 3).toNat), vR (some (2, n3, a3))] h (.inl (some (vI z))) h1) (k : Ev (d + 1) mL_law (777, [some (vR (some (5, n0, a0))), some (vR (some (21, 0, a1))), some (vR (some (22, 0, a2))), some (vR (some (2, n3, a3))), some (vI x4), none, none], [vI z], h1) r) : Ev (d + 1) mL_law (754, [some (vR (some (5, n0, a0))), some (vR (some (21, 0, a1))), some (vR (some (22, 0, a2))), some (vR (some (2, n3, a3))), some (vI x4), none, none], [], h) r :=
  s_aload_n rfl rfl rfl <|
  s_aload_n rfl rfl rfl <|
  s_iload rfl rfl rfl <|
  s_iconst rfl rfl <|
  s_iaddp rfl ho1 <|
  s_iald rfl rfl hi2 <|
  s_aload_n rfl rfl rfl <|
  s_iload rfl rfl rfl <|
  s_iconst rfl rfl <|
  s_iaddp rfl ho3 <|
  s_iald rfl rfl hi4 <|
  s_aload_n rfl rfl rfl <|
  s_iload rfl rfl rfl <|
  s_iconst rfl rfl <|
  s_iaddp rfl ho5 <|
  s_iald rfl rfl hi6 <|
  s_aload_n rfl rfl rfl <|
  s_csI rfl rfl rfl rfl rfl rfl c k
theorem b5_L_law_777 {d : Nat} {r : PO × PM} {h : PM} {n0 a0 a1 a2 n3 a3 : Nat} {x4 xs0 z : Int} {h1 : PM} (ho1 : -2147483648 ≤ x4 + 1 ∧ x4 + 1 ≤ 2147483647) (hi2 : 0 ≤ x4 + 1 ∧ x4 + 1 < (n0 : Nat)) (ho3 : -2147483648 ≤ x4 + 2 ∧ x4 + 2 ≤ 2147483647) (hi4 : 0 ≤ x4 + 2 ∧ x4 + 2 < (n0 : Nat)) (ho5 : -2147483648 ≤ x4 + 3 ∧ x4 + 3 ≤ 2147483647) (hi6 : 0 ≤ x4 + 3 ∧ x4 + 3 < (n0 : Nat)) (c : Ca d mX12_extend [vR (some (22, 0, a2)), vI (h.1 a0 (x4 + 1).toNat), vI (h.1 a0 (x4 + 2).toNat), vI (h.1 a0 (x4 + 3).toNat)] h (.inl (some (vI z))) h1) (k : Ev (d + 1) mL_law (801, [some (vR (some (5, n0, a0))), some (vR (some (21, 0, a1))), some (vR (some (22, 0, a2))), some (vR (some (2, n3, a3))), some (vI x4), some (vI xs0), none], [vI z], h1) r) : Ev (d + 1) mL_law (777, [some (vR (some (5, n0, a0))), some (vR (some (21, 0, a1))), some (vR (some (22, 0, a2))), some (vR (some (2, n3, a3))), some (vI x4), none, none], [vI xs0], h) r :=
  s_istore [some (vR (some (5, n0, a0))), some (vR (some (21, 0, a1))), some (vR (some (22, 0, a2))), some (vR (some (2, n3, a3))), some (vI x4), some (vI xs0), none] rfl rfl <|
  s_aload_n rfl rfl rfl <|
  s_aload_n rfl rfl rfl <|
  s_iload rfl rfl rfl <|
  s_iconst rfl rfl <|
  s_iaddp rfl ho1 <|
  s_iald rfl rfl hi2 <|
  s_aload_n rfl rfl rfl <|
  s_iload rfl rfl rfl <|
  s_iconst rfl rfl <|
  s_iaddp rfl ho3 <|
  s_iald rfl rfl hi4 <|
  s_aload_n rfl rfl rfl <|
  s_iload rfl rfl rfl <|
  s_iconst rfl rfl <|
  s_iaddp rfl ho5 <|
  s_iald rfl rfl hi6 <|
  s_cvI rfl rfl rfl rfl rfl c k
theorem b5_L_law_801 {d : Nat} {r : PO × PM} {h : PM} {n0 a0 a1 a2 n3 a3 : Nat} {x4 x5 xs0 z : Int} {h1 : PM} (c : Ca d mX12_thrown [vR (some (22, 0, a2))] h (.inl (some (vI z))) h1) (k : Ev (d + 1) mL_law (807, [some (vR (some (5, n0, a0))), some (vR (some (21, 0, a1))), some (vR (some (22, 0, a2))), some (vR (some (2, n3, a3))), some (vI x4), some (vI x5), some (vI xs0)], [vI z], h1) r) : Ev (d + 1) mL_law (801, [some (vR (some (5, n0, a0))), some (vR (some (21, 0, a1))), some (vR (some (22, 0, a2))), some (vR (some (2, n3, a3))), some (vI x4), some (vI x5), none], [vI xs0], h) r :=
  s_istore [some (vR (some (5, n0, a0))), some (vR (some (21, 0, a1))), some (vR (some (22, 0, a2))), some (vR (some (2, n3, a3))), some (vI x4), some (vI x5), some (vI xs0)] rfl rfl <|
  s_aload_n rfl rfl rfl <|
  s_cvI rfl rfl rfl rfl rfl c k
theorem b5_L_law_807 {d : Nat} {r : PO × PM} {h : PM} {n0 a0 a1 a2 n3 a3 : Nat} {x4 x5 x6 xs0 : Int} (kt : xs0 = x5 → Ev d mL_law (814, [some (vR (some (5, n0, a0))), some (vR (some (21, 0, a1))), some (vR (some (22, 0, a2))), some (vR (some (2, n3, a3))), some (vI x4), some (vI x5), some (vI x6)], [], h) r) (kf : xs0 ≠ x5 → Ev d mL_law (812, [some (vR (some (5, n0, a0))), some (vR (some (21, 0, a1))), some (vR (some (22, 0, a2))), some (vR (some (2, n3, a3))), some (vI x4), some (vI x5), some (vI x6)], [], h) r) : Ev d mL_law (807, [some (vR (some (5, n0, a0))), some (vR (some (21, 0, a1))), some (vR (some (22, 0, a2))), some (vR (some (2, n3, a3))), some (vI x4), some (vI x5), some (vI x6)], [vI xs0], h) r :=
  s_iload rfl rfl rfl <|
  s_icmp_eq 814 rfl rfl kt kf
theorem b5_L_law_812 {d : Nat} {h : PM} {n0 a0 a1 a2 n3 a3 : Nat} {x4 x5 x6 : Int} : Ev d mL_law (812, [some (vR (some (5, n0, a0))), some (vR (some (21, 0, a1))), some (vR (some (22, 0, a2))), some (vR (some (2, n3, a3))), some (vI x4), some (vI x5), some (vI x6)], [], h) (.inl (some (vI 0)), h) :=
  s_iconst rfl rfl <|
  s_ret rfl rfl
theorem b5_L_law_814 {d : Nat} {r : PO × PM} {h : PM} {n0 a0 a1 a2 n3 a3 : Nat} {x4 x5 x6 : Int} (kt : x5 ≠ 0 → Ev d mL_law (831, [some (vR (some (5, n0, a0))), some (vR (some (21, 0, a1))), some (vR (some (22, 0, a2))), some (vR (some (2, n3, a3))), some (vI x4), some (vI x5), some (vI x6)], [], h) r) (kf : x5 = 0 → Ev d mL_law (819, [some (vR (some (5, n0, a0))), some (vR (some (21, 0, a1))), some (vR (some (22, 0, a2))), some (vR (some (2, n3, a3))), some (vI x4), some (vI x5), some (vI x6)], [], h) r) : Ev d mL_law (814, [some (vR (some (5, n0, a0))), some (vR (some (21, 0, a1))), some (vR (some (22, 0, a2))), some (vR (some (2, n3, a3))), some (vI x4), some (vI x5), some (vI x6)], [], h) r :=
  s_iload rfl rfl rfl <|
  s_if_ne 831 rfl rfl kt kf
theorem b5_L_law_819 {d : Nat} {r : PO × PM} {h : PM} {n0 a0 a1 a2 n3 a3 : Nat} {x4 x5 x6 : Int} (hi1 : 0 < n3) (kt : p_lcmp (h.1 a3 0) (p_i2l x6) = 0 → Ev d mL_law (831, [some (vR (some (5, n0, a0))), some (vR (some (21, 0, a1))), some (vR (some (22, 0, a2))), some (vR (some (2, n3, a3))), some (vI x4), some (vI x5), some (vI x6)], [], h) r) (kf : p_lcmp (h.1 a3 0) (p_i2l x6) ≠ 0 → Ev d mL_law (829, [some (vR (some (5, n0, a0))), some (vR (some (21, 0, a1))), some (vR (some (22, 0, a2))), some (vR (some (2, n3, a3))), some (vI x4), some (vI x5), some (vI x6)], [], h) r) : Ev d mL_law (819, [some (vR (some (5, n0, a0))), some (vR (some (21, 0, a1))), some (vR (some (22, 0, a2))), some (vR (some (2, n3, a3))), some (vI x4), some (vI x5), some (vI x6)], [], h) r :=
  s_aload_n rfl rfl rfl <|
  s_iconst rfl rfl <|
  s_lald rfl rfl (p_lit (k := 0) hi1) <|
  s_iload rfl rfl rfl <|
  s_i2l rfl <|
  s_lcmp rfl <|
  s_if_eq 831 rfl rfl kt kf
theorem b5_L_law_829 {d : Nat} {h : PM} {n0 a0 a1 a2 n3 a3 : Nat} {x4 x5 x6 : Int} : Ev d mL_law (829, [some (vR (some (5, n0, a0))), some (vR (some (21, 0, a1))), some (vR (some (22, 0, a2))), some (vR (some (2, n3, a3))), some (vI x4), some (vI x5), some (vI x6)], [], h) (.inl (some (vI 0)), h) :=
  s_iconst rfl rfl <|
  s_ret rfl rfl
theorem b5_L_law_831 {d : Nat} {r : PO × PM} {h : PM} {n0 a0 a1 a2 n3 a3 : Nat} {x4 x5 x6 : Int} (k : Ev d mL_law (2427, [some (vR (some (5, n0, a0))), some (vR (some (21, 0, a1))), some (vR (some (22, 0, a2))), some (vR (some (2, n3, a3))), some (vI x4), none, none], [], h) r) : Ev d mL_law (831, [some (vR (some (5, n0, a0))), some (vR (some (21, 0, a1))), some (vR (some (22, 0, a2))), some (vR (some (2, n3, a3))), some (vI x4), some (vI x5), some (vI x6)], [], h) r :=
  s_goto 2427 rfl rfl (ev_forget [false, false, false, false, false, true, true] rfl k)
theorem b5_L_law_834 {d : Nat} {r : PO × PM} {h : PM} {n0 a0 a1 a2 n3 a3 : Nat} {x4 z : Int} {h1 : PM} (ho1 : -2147483648 ≤ x4 + 1 ∧ x4 + 1 ≤ 2147483647) (hi2 : 0 ≤ x4 + 1 ∧ x4 + 1 < (n0 : Nat)) (ho3 : -2147483648 ≤ x4 + 2 ∧ x4 + 2 ≤ 2147483647) (hi4 : 0 ≤ x4 + 2 ∧ x4 + 2 < (n0 : Nat)) (ho5 : -2147483648 ≤ x4 + 3 ∧ x4 + 3 ≤ 2147483647) (hi6 : 0 ≤ x4 + 3 ∧ x4 + 3 < (n0 : Nat)) (ho7 : -2147483648 ≤ x4 + 4 ∧ x4 + 4 ≤ 2147483647) (hi8 : 0 ≤ x4 + 4 ∧ x4 + 4 < (n0 : Nat)) (c : Ca d mL_runs [vR (some (21, 0, a1)), vI (h.1 a0 (x4 + 1).toNat), vI (h.1 a0 (x4 + 2).toNat), vI (h.1 a0 (x4 + 3).toNat), vI (h.1 a0 (x4 + 4).toNat), vR (some (2, n3, a3))] h (.inl (some (vI z))) h1) (k : Ev (d + 1) mL_law (863, [some (vR (some (5, n0, a0))), some (vR (some (21, 0, a1))), some (vR (some (22, 0, a2))), some (vR (some (2, n3, a3))), some (vI x4), none, none], [vI z], h1) r) : Ev (d + 1) mL_law (834, [some (vR (some (5, n0, a0))), some (vR (some (21, 0, a1))), some (vR (some (22, 0, a2))), some (vR (some (2, n3, a3))), some (vI x4), none, none], [], h) r :=
  s_aload_n rfl rfl rfl <|
  s_aload_n rfl rfl rfl <|
  s_iload rfl rfl rfl <|
  s_iconst rfl rfl <|
  s_iaddp rfl ho1 <|
  s_iald rfl rfl hi2 <|
  s_aload_n rfl rfl rfl <|
  s_iload rfl rfl rfl <|
  s_iconst rfl rfl <|
  s_iaddp rfl ho3 <|
  s_iald rfl rfl hi4 <|
  s_aload_n rfl rfl rfl <|
  s_iload rfl rfl rfl <|
  s_iconst rfl rfl <|
  s_iaddp rfl ho5 <|
  s_iald rfl rfl hi6 <|
  s_aload_n rfl rfl rfl <|
  s_iload rfl rfl rfl <|
  s_iconst rfl rfl <|
  s_iaddp rfl ho7 <|
  s_iald rfl rfl hi8 <|
  s_aload_n rfl rfl rfl <|
  s_csI rfl rfl rfl rfl rfl rfl c k
theorem b5_L_law_863 {d : Nat} {r : PO × PM} {h : PM} {n0 a0 a1 a2 n3 a3 : Nat} {x4 xs0 z : Int} {h1 : PM} (ho1 : -2147483648 ≤ x4 + 1 ∧ x4 + 1 ≤ 2147483647) (hi2 : 0 ≤ x4 + 1 ∧ x4 + 1 < (n0 : Nat)) (ho3 : -2147483648 ≤ x4 + 2 ∧ x4 + 2 ≤ 2147483647) (hi4 : 0 ≤ x4 + 2 ∧ x4 + 2 < (n0 : Nat)) (ho5 : -2147483648 ≤ x4 + 3 ∧ x4 + 3 ≤ 2147483647) (hi6 : 0 ≤ x4 + 3 ∧ x4 + 3 < (n0 : Nat)) (ho7 : -2147483648 ≤ x4 + 4 ∧ x4 + 4 ≤ 2147483647) (hi8 : 0 ≤ x4 + 4 ∧ x4 + 4 < (n0 : Nat)) (c : Ca d mX12_runs [vR (some (22, 0, a2)), vI (h.1 a0 (x4 + 1).toNat), vI (h.1 a0 (x4 + 2).toNat), vI (h.1 a0 (x4 + 3).toNat), vI (h.1 a0 (x4 + 4).toNat)] h (.inl (some (vI z))) h1) (k : Ev (d + 1) mL_law (893, [some (vR (some (5, n0, a0))), some (vR (some (21, 0, a1))), some (vR (some (22, 0, a2))), some (vR (some (2, n3, a3))), some (vI x4), some (vI xs0), none], [vI z], h1) r) : Ev (d + 1) mL_law (863, [some (vR (some (5, n0, a0))), some (vR (some (21, 0, a1))), some (vR (some (22, 0, a2))), some (vR (some (2, n3, a3))), some (vI x4), none, none], [vI xs0], h) r :=
  s_istore [some (vR (some (5, n0, a0))), some (vR (some (21, 0, a1))), some (vR (some (22, 0, a2))), some (vR (some (2, n3, a3))), some (vI x4), some (vI xs0), none] rfl rfl <|
  s_aload_n rfl rfl rfl <|
  s_aload_n rfl rfl rfl <|
  s_iload rfl rfl rfl <|
  s_iconst rfl rfl <|
  s_iaddp rfl ho1 <|
  s_iald rfl rfl hi2 <|
  s_aload_n rfl rfl rfl <|
  s_iload rfl rfl rfl <|
  s_iconst rfl rfl <|
  s_iaddp rfl ho3 <|
  s_iald rfl rfl hi4 <|
  s_aload_n rfl rfl rfl <|
  s_iload rfl rfl rfl <|
  s_iconst rfl rfl <|
  s_iaddp rfl ho5 <|
  s_iald rfl rfl hi6 <|
  s_aload_n rfl rfl rfl <|
  s_iload rfl rfl rfl <|
  s_iconst rfl rfl <|
  s_iaddp rfl ho7 <|
  s_iald rfl rfl hi8 <|
  s_cvI rfl rfl rfl rfl rfl c k
theorem b5_L_law_893 {d : Nat} {r : PO × PM} {h : PM} {n0 a0 a1 a2 n3 a3 : Nat} {x4 x5 xs0 z : Int} {h1 : PM} (c : Ca d mX12_thrown [vR (some (22, 0, a2))] h (.inl (some (vI z))) h1) (k : Ev (d + 1) mL_law (899, [some (vR (some (5, n0, a0))), some (vR (some (21, 0, a1))), some (vR (some (22, 0, a2))), some (vR (some (2, n3, a3))), some (vI x4), some (vI x5), some (vI xs0)], [vI z], h1) r) : Ev (d + 1) mL_law (893, [some (vR (some (5, n0, a0))), some (vR (some (21, 0, a1))), some (vR (some (22, 0, a2))), some (vR (some (2, n3, a3))), some (vI x4), some (vI x5), none], [vI xs0], h) r :=
  s_istore [some (vR (some (5, n0, a0))), some (vR (some (21, 0, a1))), some (vR (some (22, 0, a2))), some (vR (some (2, n3, a3))), some (vI x4), some (vI x5), some (vI xs0)] rfl rfl <|
  s_aload_n rfl rfl rfl <|
  s_cvI rfl rfl rfl rfl rfl c k
theorem b5_L_law_899 {d : Nat} {r : PO × PM} {h : PM} {n0 a0 a1 a2 n3 a3 : Nat} {x4 x5 x6 xs0 : Int} (kt : xs0 = x5 → Ev d mL_law (906, [some (vR (some (5, n0, a0))), some (vR (some (21, 0, a1))), some (vR (some (22, 0, a2))), some (vR (some (2, n3, a3))), some (vI x4), some (vI x5), some (vI x6)], [], h) r) (kf : xs0 ≠ x5 → Ev d mL_law (904, [some (vR (some (5, n0, a0))), some (vR (some (21, 0, a1))), some (vR (some (22, 0, a2))), some (vR (some (2, n3, a3))), some (vI x4), some (vI x5), some (vI x6)], [], h) r) : Ev d mL_law (899, [some (vR (some (5, n0, a0))), some (vR (some (21, 0, a1))), some (vR (some (22, 0, a2))), some (vR (some (2, n3, a3))), some (vI x4), some (vI x5), some (vI x6)], [vI xs0], h) r :=
  s_iload rfl rfl rfl <|
  s_icmp_eq 906 rfl rfl kt kf
theorem b5_L_law_904 {d : Nat} {h : PM} {n0 a0 a1 a2 n3 a3 : Nat} {x4 x5 x6 : Int} : Ev d mL_law (904, [some (vR (some (5, n0, a0))), some (vR (some (21, 0, a1))), some (vR (some (22, 0, a2))), some (vR (some (2, n3, a3))), some (vI x4), some (vI x5), some (vI x6)], [], h) (.inl (some (vI 0)), h) :=
  s_iconst rfl rfl <|
  s_ret rfl rfl
theorem b5_L_law_906 {d : Nat} {r : PO × PM} {h : PM} {n0 a0 a1 a2 n3 a3 : Nat} {x4 x5 x6 : Int} (kt : x5 ≠ 0 → Ev d mL_law (923, [some (vR (some (5, n0, a0))), some (vR (some (21, 0, a1))), some (vR (some (22, 0, a2))), some (vR (some (2, n3, a3))), some (vI x4), some (vI x5), some (vI x6)], [], h) r) (kf : x5 = 0 → Ev d mL_law (911, [some (vR (some (5, n0, a0))), some (vR (some (21, 0, a1))), some (vR (some (22, 0, a2))), some (vR (some (2, n3, a3))), some (vI x4), some (vI x5), some (vI x6)], [], h) r) : Ev d mL_law (906, [some (vR (some (5, n0, a0))), some (vR (some (21, 0, a1))), some (vR (some (22, 0, a2))), some (vR (some (2, n3, a3))), some (vI x4), some (vI x5), some (vI x6)], [], h) r :=
  s_iload rfl rfl rfl <|
  s_if_ne 923 rfl rfl kt kf
theorem b5_L_law_911 {d : Nat} {r : PO × PM} {h : PM} {n0 a0 a1 a2 n3 a3 : Nat} {x4 x5 x6 : Int} (hi1 : 0 < n3) (kt : p_lcmp (h.1 a3 0) (p_i2l x6) = 0 → Ev d mL_law (923, [some (vR (some (5, n0, a0))), some (vR (some (21, 0, a1))), some (vR (some (22, 0, a2))), some (vR (some (2, n3, a3))), some (vI x4), some (vI x5), some (vI x6)], [], h) r) (kf : p_lcmp (h.1 a3 0) (p_i2l x6) ≠ 0 → Ev d mL_law (921, [some (vR (some (5, n0, a0))), some (vR (some (21, 0, a1))), some (vR (some (22, 0, a2))), some (vR (some (2, n3, a3))), some (vI x4), some (vI x5), some (vI x6)], [], h) r) : Ev d mL_law (911, [some (vR (some (5, n0, a0))), some (vR (some (21, 0, a1))), some (vR (some (22, 0, a2))), some (vR (some (2, n3, a3))), some (vI x4), some (vI x5), some (vI x6)], [], h) r :=
  s_aload_n rfl rfl rfl <|
  s_iconst rfl rfl <|
  s_lald rfl rfl (p_lit (k := 0) hi1) <|
  s_iload rfl rfl rfl <|
  s_i2l rfl <|
  s_lcmp rfl <|
  s_if_eq 923 rfl rfl kt kf
theorem b5_L_law_921 {d : Nat} {h : PM} {n0 a0 a1 a2 n3 a3 : Nat} {x4 x5 x6 : Int} : Ev d mL_law (921, [some (vR (some (5, n0, a0))), some (vR (some (21, 0, a1))), some (vR (some (22, 0, a2))), some (vR (some (2, n3, a3))), some (vI x4), some (vI x5), some (vI x6)], [], h) (.inl (some (vI 0)), h) :=
  s_iconst rfl rfl <|
  s_ret rfl rfl
theorem b5_L_law_923 {d : Nat} {r : PO × PM} {h : PM} {n0 a0 a1 a2 n3 a3 : Nat} {x4 x5 x6 : Int} (k : Ev d mL_law (2427, [some (vR (some (5, n0, a0))), some (vR (some (21, 0, a1))), some (vR (some (22, 0, a2))), some (vR (some (2, n3, a3))), some (vI x4), none, none], [], h) r) : Ev d mL_law (923, [some (vR (some (5, n0, a0))), some (vR (some (21, 0, a1))), some (vR (some (22, 0, a2))), some (vR (some (2, n3, a3))), some (vI x4), some (vI x5), some (vI x6)], [], h) r :=
  s_goto 2427 rfl rfl (ev_forget [false, false, false, false, false, true, true] rfl k)
theorem b5_L_law_926 {d : Nat} {r : PO × PM} {h : PM} {n0 a0 a1 a2 n3 a3 : Nat} {x4 z : Int} {h1 : PM} (ho1 : -2147483648 ≤ x4 + 1 ∧ x4 + 1 ≤ 2147483647) (hi2 : 0 ≤ x4 + 1 ∧ x4 + 1 < (n0 : Nat)) (ho3 : -2147483648 ≤ x4 + 2 ∧ x4 + 2 ≤ 2147483647) (hi4 : 0 ≤ x4 + 2 ∧ x4 + 2 < (n0 : Nat)) (ho5 : -2147483648 ≤ x4 + 3 ∧ x4 + 3 ≤ 2147483647) (hi6 : 0 ≤ x4 + 3 ∧ x4 + 3 < (n0 : Nat)) (ho7 : -2147483648 ≤ x4 + 4 ∧ x4 + 4 ≤ 2147483647) (hi8 : 0 ≤ x4 + 4 ∧ x4 + 4 < (n0 : Nat)) (c : Ca d mL_switched [vR (some (21, 0, a1)), vI (h.1 a0 (x4 + 1).toNat), vI (h.1 a0 (x4 + 2).toNat), vI (h.1 a0 (x4 + 3).toNat), vI (h.1 a0 (x4 + 4).toNat), vR (some (2, n3, a3))] h (.inl (some (vI z))) h1) (k : Ev (d + 1) mL_law (955, [some (vR (some (5, n0, a0))), some (vR (some (21, 0, a1))), some (vR (some (22, 0, a2))), some (vR (some (2, n3, a3))), some (vI x4), none, none], [vI z], h1) r) : Ev (d + 1) mL_law (926, [some (vR (some (5, n0, a0))), some (vR (some (21, 0, a1))), some (vR (some (22, 0, a2))), some (vR (some (2, n3, a3))), some (vI x4), none, none], [], h) r :=
  s_aload_n rfl rfl rfl <|
  s_aload_n rfl rfl rfl <|
  s_iload rfl rfl rfl <|
  s_iconst rfl rfl <|
  s_iaddp rfl ho1 <|
  s_iald rfl rfl hi2 <|
  s_aload_n rfl rfl rfl <|
  s_iload rfl rfl rfl <|
  s_iconst rfl rfl <|
  s_iaddp rfl ho3 <|
  s_iald rfl rfl hi4 <|
  s_aload_n rfl rfl rfl <|
  s_iload rfl rfl rfl <|
  s_iconst rfl rfl <|
  s_iaddp rfl ho5 <|
  s_iald rfl rfl hi6 <|
  s_aload_n rfl rfl rfl <|
  s_iload rfl rfl rfl <|
  s_iconst rfl rfl <|
  s_iaddp rfl ho7 <|
  s_iald rfl rfl hi8 <|
  s_aload_n rfl rfl rfl <|
  s_csI rfl rfl rfl rfl rfl rfl c k
theorem b5_L_law_955 {d : Nat} {r : PO × PM} {h : PM} {n0 a0 a1 a2 n3 a3 : Nat} {x4 xs0 z : Int} {h1 : PM} (ho1 : -2147483648 ≤ x4 + 1 ∧ x4 + 1 ≤ 2147483647) (hi2 : 0 ≤ x4 + 1 ∧ x4 + 1 < (n0 : Nat)) (ho3 : -2147483648 ≤ x4 + 2 ∧ x4 + 2 ≤ 2147483647) (hi4 : 0 ≤ x4 + 2 ∧ x4 + 2 < (n0 : Nat)) (ho5 : -2147483648 ≤ x4 + 3 ∧ x4 + 3 ≤ 2147483647) (hi6 : 0 ≤ x4 + 3 ∧ x4 + 3 < (n0 : Nat)) (ho7 : -2147483648 ≤ x4 + 4 ∧ x4 + 4 ≤ 2147483647) (hi8 : 0 ≤ x4 + 4 ∧ x4 + 4 < (n0 : Nat)) (c : Ca d mX12_switched [vR (some (22, 0, a2)), vI (h.1 a0 (x4 + 1).toNat), vI (h.1 a0 (x4 + 2).toNat), vI (h.1 a0 (x4 + 3).toNat), vI (h.1 a0 (x4 + 4).toNat)] h (.inl (some (vI z))) h1) (k : Ev (d + 1) mL_law (985, [some (vR (some (5, n0, a0))), some (vR (some (21, 0, a1))), some (vR (some (22, 0, a2))), some (vR (some (2, n3, a3))), some (vI x4), some (vI xs0), none], [vI z], h1) r) : Ev (d + 1) mL_law (955, [some (vR (some (5, n0, a0))), some (vR (some (21, 0, a1))), some (vR (some (22, 0, a2))), some (vR (some (2, n3, a3))), some (vI x4), none, none], [vI xs0], h) r :=
  s_istore [some (vR (some (5, n0, a0))), some (vR (some (21, 0, a1))), some (vR (some (22, 0, a2))), some (vR (some (2, n3, a3))), some (vI x4), some (vI xs0), none] rfl rfl <|
  s_aload_n rfl rfl rfl <|
  s_aload_n rfl rfl rfl <|
  s_iload rfl rfl rfl <|
  s_iconst rfl rfl <|
  s_iaddp rfl ho1 <|
  s_iald rfl rfl hi2 <|
  s_aload_n rfl rfl rfl <|
  s_iload rfl rfl rfl <|
  s_iconst rfl rfl <|
  s_iaddp rfl ho3 <|
  s_iald rfl rfl hi4 <|
  s_aload_n rfl rfl rfl <|
  s_iload rfl rfl rfl <|
  s_iconst rfl rfl <|
  s_iaddp rfl ho5 <|
  s_iald rfl rfl hi6 <|
  s_aload_n rfl rfl rfl <|
  s_iload rfl rfl rfl <|
  s_iconst rfl rfl <|
  s_iaddp rfl ho7 <|
  s_iald rfl rfl hi8 <|
  s_cvI rfl rfl rfl rfl rfl c k
theorem b5_L_law_985 {d : Nat} {r : PO × PM} {h : PM} {n0 a0 a1 a2 n3 a3 : Nat} {x4 x5 xs0 z : Int} {h1 : PM} (c : Ca d mX12_thrown [vR (some (22, 0, a2))] h (.inl (some (vI z))) h1) (k : Ev (d + 1) mL_law (991, [some (vR (some (5, n0, a0))), some (vR (some (21, 0, a1))), some (vR (some (22, 0, a2))), some (vR (some (2, n3, a3))), some (vI x4), some (vI x5), some (vI xs0)], [vI z], h1) r) : Ev (d + 1) mL_law (985, [some (vR (some (5, n0, a0))), some (vR (some (21, 0, a1))), some (vR (some (22, 0, a2))), some (vR (some (2, n3, a3))), some (vI x4), some (vI x5), none], [vI xs0], h) r :=
  s_istore [some (vR (some (5, n0, a0))), some (vR (some (21, 0, a1))), some (vR (some (22, 0, a2))), some (vR (some (2, n3, a3))), some (vI x4), some (vI x5), some (vI xs0)] rfl rfl <|
  s_aload_n rfl rfl rfl <|
  s_cvI rfl rfl rfl rfl rfl c k
theorem b5_L_law_991 {d : Nat} {r : PO × PM} {h : PM} {n0 a0 a1 a2 n3 a3 : Nat} {x4 x5 x6 xs0 : Int} (kt : xs0 = x5 → Ev d mL_law (998, [some (vR (some (5, n0, a0))), some (vR (some (21, 0, a1))), some (vR (some (22, 0, a2))), some (vR (some (2, n3, a3))), some (vI x4), some (vI x5), some (vI x6)], [], h) r) (kf : xs0 ≠ x5 → Ev d mL_law (996, [some (vR (some (5, n0, a0))), some (vR (some (21, 0, a1))), some (vR (some (22, 0, a2))), some (vR (some (2, n3, a3))), some (vI x4), some (vI x5), some (vI x6)], [], h) r) : Ev d mL_law (991, [some (vR (some (5, n0, a0))), some (vR (some (21, 0, a1))), some (vR (some (22, 0, a2))), some (vR (some (2, n3, a3))), some (vI x4), some (vI x5), some (vI x6)], [vI xs0], h) r :=
  s_iload rfl rfl rfl <|
  s_icmp_eq 998 rfl rfl kt kf
theorem b5_L_law_996 {d : Nat} {h : PM} {n0 a0 a1 a2 n3 a3 : Nat} {x4 x5 x6 : Int} : Ev d mL_law (996, [some (vR (some (5, n0, a0))), some (vR (some (21, 0, a1))), some (vR (some (22, 0, a2))), some (vR (some (2, n3, a3))), some (vI x4), some (vI x5), some (vI x6)], [], h) (.inl (some (vI 0)), h) :=
  s_iconst rfl rfl <|
  s_ret rfl rfl
theorem b5_L_law_998 {d : Nat} {r : PO × PM} {h : PM} {n0 a0 a1 a2 n3 a3 : Nat} {x4 x5 x6 : Int} (kt : x5 ≠ 0 → Ev d mL_law (1015, [some (vR (some (5, n0, a0))), some (vR (some (21, 0, a1))), some (vR (some (22, 0, a2))), some (vR (some (2, n3, a3))), some (vI x4), some (vI x5), some (vI x6)], [], h) r) (kf : x5 = 0 → Ev d mL_law (1003, [some (vR (some (5, n0, a0))), some (vR (some (21, 0, a1))), some (vR (some (22, 0, a2))), some (vR (some (2, n3, a3))), some (vI x4), some (vI x5), some (vI x6)], [], h) r) : Ev d mL_law (998, [some (vR (some (5, n0, a0))), some (vR (some (21, 0, a1))), some (vR (some (22, 0, a2))), some (vR (some (2, n3, a3))), some (vI x4), some (vI x5), some (vI x6)], [], h) r :=
  s_iload rfl rfl rfl <|
  s_if_ne 1015 rfl rfl kt kf
theorem b5_L_law_1003 {d : Nat} {r : PO × PM} {h : PM} {n0 a0 a1 a2 n3 a3 : Nat} {x4 x5 x6 : Int} (hi1 : 0 < n3) (kt : p_lcmp (h.1 a3 0) (p_i2l x6) = 0 → Ev d mL_law (1015, [some (vR (some (5, n0, a0))), some (vR (some (21, 0, a1))), some (vR (some (22, 0, a2))), some (vR (some (2, n3, a3))), some (vI x4), some (vI x5), some (vI x6)], [], h) r) (kf : p_lcmp (h.1 a3 0) (p_i2l x6) ≠ 0 → Ev d mL_law (1013, [some (vR (some (5, n0, a0))), some (vR (some (21, 0, a1))), some (vR (some (22, 0, a2))), some (vR (some (2, n3, a3))), some (vI x4), some (vI x5), some (vI x6)], [], h) r) : Ev d mL_law (1003, [some (vR (some (5, n0, a0))), some (vR (some (21, 0, a1))), some (vR (some (22, 0, a2))), some (vR (some (2, n3, a3))), some (vI x4), some (vI x5), some (vI x6)], [], h) r :=
  s_aload_n rfl rfl rfl <|
  s_iconst rfl rfl <|
  s_lald rfl rfl (p_lit (k := 0) hi1) <|
  s_iload rfl rfl rfl <|
  s_i2l rfl <|
  s_lcmp rfl <|
  s_if_eq 1015 rfl rfl kt kf
theorem b5_L_law_1013 {d : Nat} {h : PM} {n0 a0 a1 a2 n3 a3 : Nat} {x4 x5 x6 : Int} : Ev d mL_law (1013, [some (vR (some (5, n0, a0))), some (vR (some (21, 0, a1))), some (vR (some (22, 0, a2))), some (vR (some (2, n3, a3))), some (vI x4), some (vI x5), some (vI x6)], [], h) (.inl (some (vI 0)), h) :=
  s_iconst rfl rfl <|
  s_ret rfl rfl
theorem b5_L_law_1015 {d : Nat} {r : PO × PM} {h : PM} {n0 a0 a1 a2 n3 a3 : Nat} {x4 x5 x6 : Int} (k : Ev d mL_law (2427, [some (vR (some (5, n0, a0))), some (vR (some (21, 0, a1))), some (vR (some (22, 0, a2))), some (vR (some (2, n3, a3))), some (vI x4), none, none], [], h) r) : Ev d mL_law (1015, [some (vR (some (5, n0, a0))), some (vR (some (21, 0, a1))), some (vR (some (22, 0, a2))), some (vR (some (2, n3, a3))), some (vI x4), some (vI x5), some (vI x6)], [], h) r :=
  s_goto 2427 rfl rfl (ev_forget [false, false, false, false, false, true, true] rfl k)
theorem b5_L_law_1018 {d : Nat} {r : PO × PM} {h : PM} {n0 a0 a1 a2 n3 a3 : Nat} {x4 z : Int} {h1 : PM} (ho1 : -2147483648 ≤ x4 + 1 ∧ x4 + 1 ≤ 2147483647) (hi2 : 0 ≤ x4 + 1 ∧ x4 + 1 < (n0 : Nat)) (ho3 : -2147483648 ≤ x4 + 2 ∧ x4 + 2 ≤ 2147483647) (hi4 : 0 ≤ x4 + 2 ∧ x4 + 2 < (n0 : Nat)) (ho5 : -2147483648 ≤ x4 + 3 ∧ x4 + 3 ≤ 2147483647) (hi6 : 0 ≤ x4 + 3 ∧ x4 + 3 < (n0 : Nat)) (c : Ca d mL_set [vR (some (21, 0, a1)), vI (h.1 a0 (x4 + 1).toNat), vI (h.1 a0 (x4 + 2).toNat), vI (h.1 a0 (x4 + 3).toNat), vR (some (2, n3, a3))] h (.inl (some (vI z))) h1) (k : Ev (d + 1) mL_law (1041, [some (vR (some (5, n0, a0))), some (vR (some (21, 0, a1))), some (vR (some (22, 0, a2))), some (vR (some (2, n3, a3))), some (vI x4), none, none], [vI z], h1) r) : Ev (d + 1) mL_law (1018, [some (vR (some (5, n0, a0))), some (vR (some (21, 0, a1))), some (vR (some (22, 0, a2))), some (vR (some (2, n3, a3))), some (vI x4), none, none], [], h) r :=
  s_aload_n rfl rfl rfl <|
  s_aload_n rfl rfl rfl <|
  s_iload rfl rfl rfl <|
  s_iconst rfl rfl <|
  s_iaddp rfl ho1 <|
  s_iald rfl rfl hi2 <|
  s_aload_n rfl rfl rfl <|
  s_iload rfl rfl rfl <|
  s_iconst rfl rfl <|
  s_iaddp rfl ho3 <|
  s_iald rfl rfl hi4 <|
  s_aload_n rfl rfl rfl <|
  s_iload rfl rfl rfl <|
  s_iconst rfl rfl <|
  s_iaddp rfl ho5 <|
  s_iald rfl rfl hi6 <|
  s_aload_n rfl rfl rfl <|
  s_csI rfl rfl rfl rfl rfl rfl c k
theorem b5_L_law_1041 {d : Nat} {r : PO × PM} {h : PM} {n0 a0 a1 a2 n3 a3 : Nat} {x4 xs0 z : Int} {h1 : PM} (ho1 : -2147483648 ≤ x4 + 1 ∧ x4 + 1 ≤ 2147483647) (hi2 : 0 ≤ x4 + 1 ∧ x4 + 1 < (n0 : Nat)) (ho3 : -2147483648 ≤ x4 + 2 ∧ x4 + 2 ≤ 2147483647) (hi4 : 0 ≤ x4 + 2 ∧ x4 + 2 < (n0 : Nat)) (ho5 : -2147483648 ≤ x4 + 3 ∧ x4 + 3 ≤ 2147483647) (hi6 : 0 ≤ x4 + 3 ∧ x4 + 3 < (n0 : Nat)) (c : Ca d mX12_set [vR (some (22, 0, a2)), vI (h.1 a0 (x4 + 1).toNat), vI (h.1 a0 (x4 + 2).toNat), vI (h.1 a0 (x4 + 3).toNat)] h (.inl (some (vI z))) h1) (k : Ev (d + 1) mL_law (1065, [some (vR (some (5, n0, a0))), some (vR (some (21, 0, a1))), some (vR (some (22, 0, a2))), some (vR (some (2, n3, a3))), some (vI x4), some (vI xs0), none], [vI z], h1) r) : Ev (d + 1) mL_law (1041, [some (vR (some (5, n0, a0))), some (vR (some (21, 0, a1))), some (vR (some (22, 0, a2))), some (vR (some (2, n3, a3))), some (vI x4), none, none], [vI xs0], h) r :=
  s_istore [some (vR (some (5, n0, a0))), some (vR (some (21, 0, a1))), some (vR (some (22, 0, a2))), some (vR (some (2, n3, a3))), some (vI x4), some (vI xs0), none] rfl rfl <|
  s_aload_n rfl rfl rfl <|
  s_aload_n rfl rfl rfl <|
  s_iload rfl rfl rfl <|
  s_iconst rfl rfl <|
  s_iaddp rfl ho1 <|
  s_iald rfl rfl hi2 <|
  s_aload_n rfl rfl rfl <|
  s_iload rfl rfl rfl <|
  s_iconst rfl rfl <|
  s_iaddp rfl ho3 <|
  s_iald rfl rfl hi4 <|
  s_aload_n rfl rfl rfl <|
  s_iload rfl rfl rfl <|
  s_iconst rfl rfl <|
  s_iaddp rfl ho5 <|
  s_iald rfl rfl hi6 <|
  s_cvI rfl rfl rfl rfl rfl c k
theorem b5_L_law_1065 {d : Nat} {r : PO × PM} {h : PM} {n0 a0 a1 a2 n3 a3 : Nat} {x4 x5 xs0 z : Int} {h1 : PM} (c : Ca d mX12_thrown [vR (some (22, 0, a2))] h (.inl (some (vI z))) h1) (k : Ev (d + 1) mL_law (1071, [some (vR (some (5, n0, a0))), some (vR (some (21, 0, a1))), some (vR (some (22, 0, a2))), some (vR (some (2, n3, a3))), some (vI x4), some (vI x5), some (vI xs0)], [vI z], h1) r) : Ev (d + 1) mL_law (1065, [some (vR (some (5, n0, a0))), some (vR (some (21, 0, a1))), some (vR (some (22, 0, a2))), some (vR (some (2, n3, a3))), some (vI x4), some (vI x5), none], [vI xs0], h) r :=
  s_istore [some (vR (some (5, n0, a0))), some (vR (some (21, 0, a1))), some (vR (some (22, 0, a2))), some (vR (some (2, n3, a3))), some (vI x4), some (vI x5), some (vI xs0)] rfl rfl <|
  s_aload_n rfl rfl rfl <|
  s_cvI rfl rfl rfl rfl rfl c k
theorem b5_L_law_1071 {d : Nat} {r : PO × PM} {h : PM} {n0 a0 a1 a2 n3 a3 : Nat} {x4 x5 x6 xs0 : Int} (kt : xs0 = x5 → Ev d mL_law (1078, [some (vR (some (5, n0, a0))), some (vR (some (21, 0, a1))), some (vR (some (22, 0, a2))), some (vR (some (2, n3, a3))), some (vI x4), some (vI x5), some (vI x6)], [], h) r) (kf : xs0 ≠ x5 → Ev d mL_law (1076, [some (vR (some (5, n0, a0))), some (vR (some (21, 0, a1))), some (vR (some (22, 0, a2))), some (vR (some (2, n3, a3))), some (vI x4), some (vI x5), some (vI x6)], [], h) r) : Ev d mL_law (1071, [some (vR (some (5, n0, a0))), some (vR (some (21, 0, a1))), some (vR (some (22, 0, a2))), some (vR (some (2, n3, a3))), some (vI x4), some (vI x5), some (vI x6)], [vI xs0], h) r :=
  s_iload rfl rfl rfl <|
  s_icmp_eq 1078 rfl rfl kt kf
theorem b5_L_law_1076 {d : Nat} {h : PM} {n0 a0 a1 a2 n3 a3 : Nat} {x4 x5 x6 : Int} : Ev d mL_law (1076, [some (vR (some (5, n0, a0))), some (vR (some (21, 0, a1))), some (vR (some (22, 0, a2))), some (vR (some (2, n3, a3))), some (vI x4), some (vI x5), some (vI x6)], [], h) (.inl (some (vI 0)), h) :=
  s_iconst rfl rfl <|
  s_ret rfl rfl
theorem b5_L_law_1078 {d : Nat} {r : PO × PM} {h : PM} {n0 a0 a1 a2 n3 a3 : Nat} {x4 x5 x6 : Int} (kt : x5 ≠ 0 → Ev d mL_law (1095, [some (vR (some (5, n0, a0))), some (vR (some (21, 0, a1))), some (vR (some (22, 0, a2))), some (vR (some (2, n3, a3))), some (vI x4), some (vI x5), some (vI x6)], [], h) r) (kf : x5 = 0 → Ev d mL_law (1083, [some (vR (some (5, n0, a0))), some (vR (some (21, 0, a1))), some (vR (some (22, 0, a2))), some (vR (some (2, n3, a3))), some (vI x4), some (vI x5), some (vI x6)], [], h) r) : Ev d mL_law (1078, [some (vR (some (5, n0, a0))), some (vR (some (21, 0, a1))), some (vR (some (22, 0, a2))), some (vR (some (2, n3, a3))), some (vI x4), some (vI x5), some (vI x6)], [], h) r :=
  s_iload rfl rfl rfl <|
  s_if_ne 1095 rfl rfl kt kf
theorem b5_L_law_1083 {d : Nat} {r : PO × PM} {h : PM} {n0 a0 a1 a2 n3 a3 : Nat} {x4 x5 x6 : Int} (hi1 : 0 < n3) (kt : p_lcmp (h.1 a3 0) (p_i2l x6) = 0 → Ev d mL_law (1095, [some (vR (some (5, n0, a0))), some (vR (some (21, 0, a1))), some (vR (some (22, 0, a2))), some (vR (some (2, n3, a3))), some (vI x4), some (vI x5), some (vI x6)], [], h) r) (kf : p_lcmp (h.1 a3 0) (p_i2l x6) ≠ 0 → Ev d mL_law (1093, [some (vR (some (5, n0, a0))), some (vR (some (21, 0, a1))), some (vR (some (22, 0, a2))), some (vR (some (2, n3, a3))), some (vI x4), some (vI x5), some (vI x6)], [], h) r) : Ev d mL_law (1083, [some (vR (some (5, n0, a0))), some (vR (some (21, 0, a1))), some (vR (some (22, 0, a2))), some (vR (some (2, n3, a3))), some (vI x4), some (vI x5), some (vI x6)], [], h) r :=
  s_aload_n rfl rfl rfl <|
  s_iconst rfl rfl <|
  s_lald rfl rfl (p_lit (k := 0) hi1) <|
  s_iload rfl rfl rfl <|
  s_i2l rfl <|
  s_lcmp rfl <|
  s_if_eq 1095 rfl rfl kt kf
theorem b5_L_law_1093 {d : Nat} {h : PM} {n0 a0 a1 a2 n3 a3 : Nat} {x4 x5 x6 : Int} : Ev d mL_law (1093, [some (vR (some (5, n0, a0))), some (vR (some (21, 0, a1))), some (vR (some (22, 0, a2))), some (vR (some (2, n3, a3))), some (vI x4), some (vI x5), some (vI x6)], [], h) (.inl (some (vI 0)), h) :=
  s_iconst rfl rfl <|
  s_ret rfl rfl
theorem b5_L_law_1095 {d : Nat} {r : PO × PM} {h : PM} {n0 a0 a1 a2 n3 a3 : Nat} {x4 x5 x6 : Int} (k : Ev d mL_law (2427, [some (vR (some (5, n0, a0))), some (vR (some (21, 0, a1))), some (vR (some (22, 0, a2))), some (vR (some (2, n3, a3))), some (vI x4), none, none], [], h) r) : Ev d mL_law (1095, [some (vR (some (5, n0, a0))), some (vR (some (21, 0, a1))), some (vR (some (22, 0, a2))), some (vR (some (2, n3, a3))), some (vI x4), some (vI x5), some (vI x6)], [], h) r :=
  s_goto 2427 rfl rfl (ev_forget [false, false, false, false, false, true, true] rfl k)
theorem b5_L_law_1098 {d : Nat} {r : PO × PM} {h : PM} {n0 a0 a1 a2 n3 a3 : Nat} {x4 z : Int} {h1 : PM} (ho1 : -2147483648 ≤ x4 + 1 ∧ x4 + 1 ≤ 2147483647) (hi2 : 0 ≤ x4 + 1 ∧ x4 + 1 < (n0 : Nat)) (ho3 : -2147483648 ≤ x4 + 2 ∧ x4 + 2 ≤ 2147483647) (hi4 : 0 ≤ x4 + 2 ∧ x4 + 2 < (n0 : Nat)) (ho5 : -2147483648 ≤ x4 + 3 ∧ x4 + 3 ≤ 2147483647) (hi6 : 0 ≤ x4 + 3 ∧ x4 + 3 < (n0 : Nat)) (ho7 : -2147483648 ≤ x4 + 4 ∧ x4 + 4 ≤ 2147483647) (hi8 : 0 ≤ x4 + 4 ∧ x4 + 4 < (n0 : Nat)) (c : Ca d mL_sends [vR (some (21, 0, a1)), vI (h.1 a0 (x4 + 1).toNat), vI (h.1 a0 (x4 + 2).toNat), vI (h.1 a0 (x4 + 3).toNat), vI (h.1 a0 (x4 + 4).toNat), vR (some (2, n3, a3))] h (.inl (some (vI z))) h1) (k : Ev (d + 1) mL_law (1127, [some (vR (some (5, n0, a0))), some (vR (some (21, 0, a1))), some (vR (some (22, 0, a2))), some (vR (some (2, n3, a3))), some (vI x4), none, none], [vI z], h1) r) : Ev (d + 1) mL_law (1098, [some (vR (some (5, n0, a0))), some (vR (some (21, 0, a1))), some (vR (some (22, 0, a2))), some (vR (some (2, n3, a3))), some (vI x4), none, none], [], h) r :=
  s_aload_n rfl rfl rfl <|
  s_aload_n rfl rfl rfl <|
  s_iload rfl rfl rfl <|
  s_iconst rfl rfl <|
  s_iaddp rfl ho1 <|
  s_iald rfl rfl hi2 <|
  s_aload_n rfl rfl rfl <|
  s_iload rfl rfl rfl <|
  s_iconst rfl rfl <|
  s_iaddp rfl ho3 <|
  s_iald rfl rfl hi4 <|
  s_aload_n rfl rfl rfl <|
  s_iload rfl rfl rfl <|
  s_iconst rfl rfl <|
  s_iaddp rfl ho5 <|
  s_iald rfl rfl hi6 <|
  s_aload_n rfl rfl rfl <|
  s_iload rfl rfl rfl <|
  s_iconst rfl rfl <|
  s_iaddp rfl ho7 <|
  s_iald rfl rfl hi8 <|
  s_aload_n rfl rfl rfl <|
  s_csI rfl rfl rfl rfl rfl rfl c k
theorem b5_L_law_1127 {d : Nat} {r : PO × PM} {h : PM} {n0 a0 a1 a2 n3 a3 : Nat} {x4 xs0 z : Int} {h1 : PM} (ho1 : -2147483648 ≤ x4 + 1 ∧ x4 + 1 ≤ 2147483647) (hi2 : 0 ≤ x4 + 1 ∧ x4 + 1 < (n0 : Nat)) (ho3 : -2147483648 ≤ x4 + 2 ∧ x4 + 2 ≤ 2147483647) (hi4 : 0 ≤ x4 + 2 ∧ x4 + 2 < (n0 : Nat)) (ho5 : -2147483648 ≤ x4 + 3 ∧ x4 + 3 ≤ 2147483647) (hi6 : 0 ≤ x4 + 3 ∧ x4 + 3 < (n0 : Nat)) (ho7 : -2147483648 ≤ x4 + 4 ∧ x4 + 4 ≤ 2147483647) (hi8 : 0 ≤ x4 + 4 ∧ x4 + 4 < (n0 : Nat)) (c : Ca d mX12_sends [vR (some (22, 0, a2)), vI (h.1 a0 (x4 + 1).toNat), vI (h.1 a0 (x4 + 2).toNat), vI (h.1 a0 (x4 + 3).toNat), vI (h.1 a0 (x4 + 4).toNat)] h (.inl (some (vI z))) h1) (k : Ev (d + 1) mL_law (1157, [some (vR (some (5, n0, a0))), some (vR (some (21, 0, a1))), some (vR (some (22, 0, a2))), some (vR (some (2, n3, a3))), some (vI x4), some (vI xs0), none], [vI z], h1) r) : Ev (d + 1) mL_law (1127, [some (vR (some (5, n0, a0))), some (vR (some (21, 0, a1))), some (vR (some (22, 0, a2))), some (vR (some (2, n3, a3))), some (vI x4), none, none], [vI xs0], h) r :=
  s_istore [some (vR (some (5, n0, a0))), some (vR (some (21, 0, a1))), some (vR (some (22, 0, a2))), some (vR (some (2, n3, a3))), some (vI x4), some (vI xs0), none] rfl rfl <|
  s_aload_n rfl rfl rfl <|
  s_aload_n rfl rfl rfl <|
  s_iload rfl rfl rfl <|
  s_iconst rfl rfl <|
  s_iaddp rfl ho1 <|
  s_iald rfl rfl hi2 <|
  s_aload_n rfl rfl rfl <|
  s_iload rfl rfl rfl <|
  s_iconst rfl rfl <|
  s_iaddp rfl ho3 <|
  s_iald rfl rfl hi4 <|
  s_aload_n rfl rfl rfl <|
  s_iload rfl rfl rfl <|
  s_iconst rfl rfl <|
  s_iaddp rfl ho5 <|
  s_iald rfl rfl hi6 <|
  s_aload_n rfl rfl rfl <|
  s_iload rfl rfl rfl <|
  s_iconst rfl rfl <|
  s_iaddp rfl ho7 <|
  s_iald rfl rfl hi8 <|
  s_cvI rfl rfl rfl rfl rfl c k
theorem b5_L_law_1157 {d : Nat} {r : PO × PM} {h : PM} {n0 a0 a1 a2 n3 a3 : Nat} {x4 x5 xs0 z : Int} {h1 : PM} (c : Ca d mX12_thrown [vR (some (22, 0, a2))] h (.inl (some (vI z))) h1) (k : Ev (d + 1) mL_law (1163, [some (vR (some (5, n0, a0))), some (vR (some (21, 0, a1))), some (vR (some (22, 0, a2))), some (vR (some (2, n3, a3))), some (vI x4), some (vI x5), some (vI xs0)], [vI z], h1) r) : Ev (d + 1) mL_law (1157, [some (vR (some (5, n0, a0))), some (vR (some (21, 0, a1))), some (vR (some (22, 0, a2))), some (vR (some (2, n3, a3))), some (vI x4), some (vI x5), none], [vI xs0], h) r :=
  s_istore [some (vR (some (5, n0, a0))), some (vR (some (21, 0, a1))), some (vR (some (22, 0, a2))), some (vR (some (2, n3, a3))), some (vI x4), some (vI x5), some (vI xs0)] rfl rfl <|
  s_aload_n rfl rfl rfl <|
  s_cvI rfl rfl rfl rfl rfl c k
theorem b5_L_law_1163 {d : Nat} {r : PO × PM} {h : PM} {n0 a0 a1 a2 n3 a3 : Nat} {x4 x5 x6 xs0 : Int} (kt : xs0 = x5 → Ev d mL_law (1170, [some (vR (some (5, n0, a0))), some (vR (some (21, 0, a1))), some (vR (some (22, 0, a2))), some (vR (some (2, n3, a3))), some (vI x4), some (vI x5), some (vI x6)], [], h) r) (kf : xs0 ≠ x5 → Ev d mL_law (1168, [some (vR (some (5, n0, a0))), some (vR (some (21, 0, a1))), some (vR (some (22, 0, a2))), some (vR (some (2, n3, a3))), some (vI x4), some (vI x5), some (vI x6)], [], h) r) : Ev d mL_law (1163, [some (vR (some (5, n0, a0))), some (vR (some (21, 0, a1))), some (vR (some (22, 0, a2))), some (vR (some (2, n3, a3))), some (vI x4), some (vI x5), some (vI x6)], [vI xs0], h) r :=
  s_iload rfl rfl rfl <|
  s_icmp_eq 1170 rfl rfl kt kf
theorem b5_L_law_1168 {d : Nat} {h : PM} {n0 a0 a1 a2 n3 a3 : Nat} {x4 x5 x6 : Int} : Ev d mL_law (1168, [some (vR (some (5, n0, a0))), some (vR (some (21, 0, a1))), some (vR (some (22, 0, a2))), some (vR (some (2, n3, a3))), some (vI x4), some (vI x5), some (vI x6)], [], h) (.inl (some (vI 0)), h) :=
  s_iconst rfl rfl <|
  s_ret rfl rfl
theorem b5_L_law_1170 {d : Nat} {r : PO × PM} {h : PM} {n0 a0 a1 a2 n3 a3 : Nat} {x4 x5 x6 : Int} (kt : x5 ≠ 0 → Ev d mL_law (1187, [some (vR (some (5, n0, a0))), some (vR (some (21, 0, a1))), some (vR (some (22, 0, a2))), some (vR (some (2, n3, a3))), some (vI x4), some (vI x5), some (vI x6)], [], h) r) (kf : x5 = 0 → Ev d mL_law (1175, [some (vR (some (5, n0, a0))), some (vR (some (21, 0, a1))), some (vR (some (22, 0, a2))), some (vR (some (2, n3, a3))), some (vI x4), some (vI x5), some (vI x6)], [], h) r) : Ev d mL_law (1170, [some (vR (some (5, n0, a0))), some (vR (some (21, 0, a1))), some (vR (some (22, 0, a2))), some (vR (some (2, n3, a3))), some (vI x4), some (vI x5), some (vI x6)], [], h) r :=
  s_iload rfl rfl rfl <|
  s_if_ne 1187 rfl rfl kt kf
theorem b5_L_law_1175 {d : Nat} {r : PO × PM} {h : PM} {n0 a0 a1 a2 n3 a3 : Nat} {x4 x5 x6 : Int} (hi1 : 0 < n3) (kt : p_lcmp (h.1 a3 0) (p_i2l x6) = 0 → Ev d mL_law (1187, [some (vR (some (5, n0, a0))), some (vR (some (21, 0, a1))), some (vR (some (22, 0, a2))), some (vR (some (2, n3, a3))), some (vI x4), some (vI x5), some (vI x6)], [], h) r) (kf : p_lcmp (h.1 a3 0) (p_i2l x6) ≠ 0 → Ev d mL_law (1185, [some (vR (some (5, n0, a0))), some (vR (some (21, 0, a1))), some (vR (some (22, 0, a2))), some (vR (some (2, n3, a3))), some (vI x4), some (vI x5), some (vI x6)], [], h) r) : Ev d mL_law (1175, [some (vR (some (5, n0, a0))), some (vR (some (21, 0, a1))), some (vR (some (22, 0, a2))), some (vR (some (2, n3, a3))), some (vI x4), some (vI x5), some (vI x6)], [], h) r :=
  s_aload_n rfl rfl rfl <|
  s_iconst rfl rfl <|
  s_lald rfl rfl (p_lit (k := 0) hi1) <|
  s_iload rfl rfl rfl <|
  s_i2l rfl <|
  s_lcmp rfl <|
  s_if_eq 1187 rfl rfl kt kf
theorem b5_L_law_1185 {d : Nat} {h : PM} {n0 a0 a1 a2 n3 a3 : Nat} {x4 x5 x6 : Int} : Ev d mL_law (1185, [some (vR (some (5, n0, a0))), some (vR (some (21, 0, a1))), some (vR (some (22, 0, a2))), some (vR (some (2, n3, a3))), some (vI x4), some (vI x5), some (vI x6)], [], h) (.inl (some (vI 0)), h) :=
  s_iconst rfl rfl <|
  s_ret rfl rfl
theorem b5_L_law_1187 {d : Nat} {r : PO × PM} {h : PM} {n0 a0 a1 a2 n3 a3 : Nat} {x4 x5 x6 : Int} (k : Ev d mL_law (2427, [some (vR (some (5, n0, a0))), some (vR (some (21, 0, a1))), some (vR (some (22, 0, a2))), some (vR (some (2, n3, a3))), some (vI x4), none, none], [], h) r) : Ev d mL_law (1187, [some (vR (some (5, n0, a0))), some (vR (some (21, 0, a1))), some (vR (some (22, 0, a2))), some (vR (some (2, n3, a3))), some (vI x4), some (vI x5), some (vI x6)], [], h) r :=
  s_goto 2427 rfl rfl (ev_forget [false, false, false, false, false, true, true] rfl k)
theorem b5_L_law_1190 {d : Nat} {r : PO × PM} {h : PM} {n0 a0 a1 a2 n3 a3 : Nat} {x4 z : Int} {h1 : PM} (ho1 : -2147483648 ≤ x4 + 1 ∧ x4 + 1 ≤ 2147483647) (hi2 : 0 ≤ x4 + 1 ∧ x4 + 1 < (n0 : Nat)) (ho3 : -2147483648 ≤ x4 + 2 ∧ x4 + 2 ≤ 2147483647) (hi4 : 0 ≤ x4 + 2 ∧ x4 + 2 < (n0 : Nat)) (ho5 : -2147483648 ≤ x4 + 3 ∧ x4 + 3 ≤ 2147483647) (hi6 : 0 ≤ x4 + 3 ∧ x4 + 3 < (n0 : Nat)) (c : Ca d mL_hub [vR (some (21, 0, a1)), vI (h.1 a0 (x4 + 1).toNat), vI (h.1 a0 (x4 + 2).toNat), vI (h.1 a0 (x4 + 3).toNat), vR (some (2, n3, a3))] h (.inl (some (vI z))) h1) (k : Ev (d + 1) mL_law (1213, [some (vR (some (5, n0, a0))), some (vR (some (21, 0, a1))), some (vR (some (22, 0, a2))), some (vR (some (2, n3, a3))), some (vI x4), none, none], [vI z], h1) r) : Ev (d + 1) mL_law (1190, [some (vR (some (5, n0, a0))), some (vR (some (21, 0, a1))), some (vR (some (22, 0, a2))), some (vR (some (2, n3, a3))), some (vI x4), none, none], [], h) r :=
  s_aload_n rfl rfl rfl <|
  s_aload_n rfl rfl rfl <|
  s_iload rfl rfl rfl <|
  s_iconst rfl rfl <|
  s_iaddp rfl ho1 <|
  s_iald rfl rfl hi2 <|
  s_aload_n rfl rfl rfl <|
  s_iload rfl rfl rfl <|
  s_iconst rfl rfl <|
  s_iaddp rfl ho3 <|
  s_iald rfl rfl hi4 <|
  s_aload_n rfl rfl rfl <|
  s_iload rfl rfl rfl <|
  s_iconst rfl rfl <|
  s_iaddp rfl ho5 <|
  s_iald rfl rfl hi6 <|
  s_aload_n rfl rfl rfl <|
  s_csI rfl rfl rfl rfl rfl rfl c k
theorem b5_L_law_1213 {d : Nat} {r : PO × PM} {h : PM} {n0 a0 a1 a2 n3 a3 : Nat} {x4 xs0 z : Int} {h1 : PM} (ho1 : -2147483648 ≤ x4 + 1 ∧ x4 + 1 ≤ 2147483647) (hi2 : 0 ≤ x4 + 1 ∧ x4 + 1 < (n0 : Nat)) (ho3 : -2147483648 ≤ x4 + 2 ∧ x4 + 2 ≤ 2147483647) (hi4 : 0 ≤ x4 + 2 ∧ x4 + 2 < (n0 : Nat)) (ho5 : -2147483648 ≤ x4 + 3 ∧ x4 + 3 ≤ 2147483647) (hi6 : 0 ≤ x4 + 3 ∧ x4 + 3 < (n0 : Nat)) (c : Ca d mX12_hub [vR (some (22, 0, a2)), vI (h.1 a0 (x4 + 1).toNat), vI (h.1 a0 (x4 + 2).toNat), vI (h.1 a0 (x4 + 3).toNat)] h (.inl (some (vI z))) h1) (k : Ev (d + 1) mL_law (1237, [some (vR (some (5, n0, a0))), some (vR (some (21, 0, a1))), some (vR (some (22, 0, a2))), some (vR (some (2, n3, a3))), some (vI x4), some (vI xs0), none], [vI z], h1) r) : Ev (d + 1) mL_law (1213, [some (vR (some (5, n0, a0))), some (vR (some (21, 0, a1))), some (vR (some (22, 0, a2))), some (vR (some (2, n3, a3))), some (vI x4), none, none], [vI xs0], h) r :=
  s_istore [some (vR (some (5, n0, a0))), some (vR (some (21, 0, a1))), some (vR (some (22, 0, a2))), some (vR (some (2, n3, a3))), some (vI x4), some (vI xs0), none] rfl rfl <|
  s_aload_n rfl rfl rfl <|
  s_aload_n rfl rfl rfl <|
  s_iload rfl rfl rfl <|
  s_iconst rfl rfl <|
  s_iaddp rfl ho1 <|
  s_iald rfl rfl hi2 <|
  s_aload_n rfl rfl rfl <|
  s_iload rfl rfl rfl <|
  s_iconst rfl rfl <|
  s_iaddp rfl ho3 <|
  s_iald rfl rfl hi4 <|
  s_aload_n rfl rfl rfl <|
  s_iload rfl rfl rfl <|
  s_iconst rfl rfl <|
  s_iaddp rfl ho5 <|
  s_iald rfl rfl hi6 <|
  s_cvI rfl rfl rfl rfl rfl c k
theorem b5_L_law_1237 {d : Nat} {r : PO × PM} {h : PM} {n0 a0 a1 a2 n3 a3 : Nat} {x4 x5 xs0 z : Int} {h1 : PM} (c : Ca d mX12_thrown [vR (some (22, 0, a2))] h (.inl (some (vI z))) h1) (k : Ev (d + 1) mL_law (1243, [some (vR (some (5, n0, a0))), some (vR (some (21, 0, a1))), some (vR (some (22, 0, a2))), some (vR (some (2, n3, a3))), some (vI x4), some (vI x5), some (vI xs0)], [vI z], h1) r) : Ev (d + 1) mL_law (1237, [some (vR (some (5, n0, a0))), some (vR (some (21, 0, a1))), some (vR (some (22, 0, a2))), some (vR (some (2, n3, a3))), some (vI x4), some (vI x5), none], [vI xs0], h) r :=
  s_istore [some (vR (some (5, n0, a0))), some (vR (some (21, 0, a1))), some (vR (some (22, 0, a2))), some (vR (some (2, n3, a3))), some (vI x4), some (vI x5), some (vI xs0)] rfl rfl <|
  s_aload_n rfl rfl rfl <|
  s_cvI rfl rfl rfl rfl rfl c k
theorem b5_L_law_1243 {d : Nat} {r : PO × PM} {h : PM} {n0 a0 a1 a2 n3 a3 : Nat} {x4 x5 x6 xs0 : Int} (kt : xs0 = x5 → Ev d mL_law (1250, [some (vR (some (5, n0, a0))), some (vR (some (21, 0, a1))), some (vR (some (22, 0, a2))), some (vR (some (2, n3, a3))), some (vI x4), some (vI x5), some (vI x6)], [], h) r) (kf : xs0 ≠ x5 → Ev d mL_law (1248, [some (vR (some (5, n0, a0))), some (vR (some (21, 0, a1))), some (vR (some (22, 0, a2))), some (vR (some (2, n3, a3))), some (vI x4), some (vI x5), some (vI x6)], [], h) r) : Ev d mL_law (1243, [some (vR (some (5, n0, a0))), some (vR (some (21, 0, a1))), some (vR (some (22, 0, a2))), some (vR (some (2, n3, a3))), some (vI x4), some (vI x5), some (vI x6)], [vI xs0], h) r :=
  s_iload rfl rfl rfl <|
  s_icmp_eq 1250 rfl rfl kt kf
theorem b5_L_law_1248 {d : Nat} {h : PM} {n0 a0 a1 a2 n3 a3 : Nat} {x4 x5 x6 : Int} : Ev d mL_law (1248, [some (vR (some (5, n0, a0))), some (vR (some (21, 0, a1))), some (vR (some (22, 0, a2))), some (vR (some (2, n3, a3))), some (vI x4), some (vI x5), some (vI x6)], [], h) (.inl (some (vI 0)), h) :=
  s_iconst rfl rfl <|
  s_ret rfl rfl
theorem b5_L_law_1250 {d : Nat} {r : PO × PM} {h : PM} {n0 a0 a1 a2 n3 a3 : Nat} {x4 x5 x6 : Int} (kt : x5 ≠ 0 → Ev d mL_law (1267, [some (vR (some (5, n0, a0))), some (vR (some (21, 0, a1))), some (vR (some (22, 0, a2))), some (vR (some (2, n3, a3))), some (vI x4), some (vI x5), some (vI x6)], [], h) r) (kf : x5 = 0 → Ev d mL_law (1255, [some (vR (some (5, n0, a0))), some (vR (some (21, 0, a1))), some (vR (some (22, 0, a2))), some (vR (some (2, n3, a3))), some (vI x4), some (vI x5), some (vI x6)], [], h) r) : Ev d mL_law (1250, [some (vR (some (5, n0, a0))), some (vR (some (21, 0, a1))), some (vR (some (22, 0, a2))), some (vR (some (2, n3, a3))), some (vI x4), some (vI x5), some (vI x6)], [], h) r :=
  s_iload rfl rfl rfl <|
  s_if_ne 1267 rfl rfl kt kf
theorem b5_L_law_1255 {d : Nat} {r : PO × PM} {h : PM} {n0 a0 a1 a2 n3 a3 : Nat} {x4 x5 x6 : Int} (hi1 : 0 < n3) (kt : p_lcmp (h.1 a3 0) (p_i2l x6) = 0 → Ev d mL_law (1267, [some (vR (some (5, n0, a0))), some (vR (some (21, 0, a1))), some (vR (some (22, 0, a2))), some (vR (some (2, n3, a3))), some (vI x4), some (vI x5), some (vI x6)], [], h) r) (kf : p_lcmp (h.1 a3 0) (p_i2l x6) ≠ 0 → Ev d mL_law (1265, [some (vR (some (5, n0, a0))), some (vR (some (21, 0, a1))), some (vR (some (22, 0, a2))), some (vR (some (2, n3, a3))), some (vI x4), some (vI x5), some (vI x6)], [], h) r) : Ev d mL_law (1255, [some (vR (some (5, n0, a0))), some (vR (some (21, 0, a1))), some (vR (some (22, 0, a2))), some (vR (some (2, n3, a3))), some (vI x4), some (vI x5), some (vI x6)], [], h) r :=
  s_aload_n rfl rfl rfl <|
  s_iconst rfl rfl <|
  s_lald rfl rfl (p_lit (k := 0) hi1) <|
  s_iload rfl rfl rfl <|
  s_i2l rfl <|
  s_lcmp rfl <|
  s_if_eq 1267 rfl rfl kt kf
theorem b5_L_law_1265 {d : Nat} {h : PM} {n0 a0 a1 a2 n3 a3 : Nat} {x4 x5 x6 : Int} : Ev d mL_law (1265, [some (vR (some (5, n0, a0))), some (vR (some (21, 0, a1))), some (vR (some (22, 0, a2))), some (vR (some (2, n3, a3))), some (vI x4), some (vI x5), some (vI x6)], [], h) (.inl (some (vI 0)), h) :=
  s_iconst rfl rfl <|
  s_ret rfl rfl
theorem b5_L_law_1267 {d : Nat} {r : PO × PM} {h : PM} {n0 a0 a1 a2 n3 a3 : Nat} {x4 x5 x6 : Int} (k : Ev d mL_law (2427, [some (vR (some (5, n0, a0))), some (vR (some (21, 0, a1))), some (vR (some (22, 0, a2))), some (vR (some (2, n3, a3))), some (vI x4), none, none], [], h) r) : Ev d mL_law (1267, [some (vR (some (5, n0, a0))), some (vR (some (21, 0, a1))), some (vR (some (22, 0, a2))), some (vR (some (2, n3, a3))), some (vI x4), some (vI x5), some (vI x6)], [], h) r :=
  s_goto 2427 rfl rfl (ev_forget [false, false, false, false, false, true, true] rfl k)
theorem b5_L_law_1270 {d : Nat} {r : PO × PM} {h : PM} {n0 a0 a1 a2 n3 a3 : Nat} {x4 z : Int} {h1 : PM} (ho1 : -2147483648 ≤ x4 + 1 ∧ x4 + 1 ≤ 2147483647) (hi2 : 0 ≤ x4 + 1 ∧ x4 + 1 < (n0 : Nat)) (ho3 : -2147483648 ≤ x4 + 2 ∧ x4 + 2 ≤ 2147483647) (hi4 : 0 ≤ x4 + 2 ∧ x4 + 2 < (n0 : Nat)) (c : Ca d mL_cases [vR (some (21, 0, a1)), vI (h.1 a0 (x4 + 1).toNat), vI (h.1 a0 (x4 + 2).toNat), vR (some (2, n3, a3))] h (.inl (some (vI z))) h1) (k : Ev (d + 1) mL_law (1287, [some (vR (some (5, n0, a0))), some (vR (some (21, 0, a1))), some (vR (some (22, 0, a2))), some (vR (some (2, n3, a3))), some (vI x4), none, none], [vI z], h1) r) : Ev (d + 1) mL_law (1270, [some (vR (some (5, n0, a0))), some (vR (some (21, 0, a1))), some (vR (some (22, 0, a2))), some (vR (some (2, n3, a3))), some (vI x4), none, none], [], h) r :=
  s_aload_n rfl rfl rfl <|
  s_aload_n rfl rfl rfl <|
  s_iload rfl rfl rfl <|
  s_iconst rfl rfl <|
  s_iaddp rfl ho1 <|
  s_iald rfl rfl hi2 <|
  s_aload_n rfl rfl rfl <|
  s_iload rfl rfl rfl <|
  s_iconst rfl rfl <|
  s_iaddp rfl ho3 <|
  s_iald rfl rfl hi4 <|
  s_aload_n rfl rfl rfl <|
  s_csI rfl rfl rfl rfl rfl rfl c k
theorem b5_L_law_1287 {d : Nat} {r : PO × PM} {h : PM} {n0 a0 a1 a2 n3 a3 : Nat} {x4 xs0 z : Int} {h1 : PM} (ho1 : -2147483648 ≤ x4 + 1 ∧ x4 + 1 ≤ 2147483647) (hi2 : 0 ≤ x4 + 1 ∧ x4 + 1 < (n0 : Nat)) (ho3 : -2147483648 ≤ x4 + 2 ∧ x4 + 2 ≤ 2147483647) (hi4 : 0 ≤ x4 + 2 ∧ x4 + 2 < (n0 : Nat)) (c : Ca d mX12_cases [vR (some (22, 0, a2)), vI (h.1 a0 (x4 + 1).toNat), vI (h.1 a0 (x4 + 2).toNat)] h (.inl (some (vI z))) h1) (k : Ev (d + 1) mL_law (1305, [some (vR (some (5, n0, a0))), some (vR (some (21, 0, a1))), some (vR (some (22, 0, a2))), some (vR (some (2, n3, a3))), some (vI x4), some (vI xs0), none], [vI z], h1) r) : Ev (d + 1) mL_law (1287, [some (vR (some (5, n0, a0))), some (vR (some (21, 0, a1))), some (vR (some (22, 0, a2))), some (vR (some (2, n3, a3))), some (vI x4), none, none], [vI xs0], h) r :=
  s_istore [some (vR (some (5, n0, a0))), some (vR (some (21, 0, a1))), some (vR (some (22, 0, a2))), some (vR (some (2, n3, a3))), some (vI x4), some (vI xs0), none] rfl rfl <|
  s_aload_n rfl rfl rfl <|
  s_aload_n rfl rfl rfl <|
  s_iload rfl rfl rfl <|
  s_iconst rfl rfl <|
  s_iaddp rfl ho1 <|
  s_iald rfl rfl hi2 <|
  s_aload_n rfl rfl rfl <|
  s_iload rfl rfl rfl <|
  s_iconst rfl rfl <|
  s_iaddp rfl ho3 <|
  s_iald rfl rfl hi4 <|
  s_cvI rfl rfl rfl rfl rfl c k
theorem b5_L_law_1305 {d : Nat} {r : PO × PM} {h : PM} {n0 a0 a1 a2 n3 a3 : Nat} {x4 x5 xs0 z : Int} {h1 : PM} (c : Ca d mX12_thrown [vR (some (22, 0, a2))] h (.inl (some (vI z))) h1) (k : Ev (d + 1) mL_law (1311, [some (vR (some (5, n0, a0))), some (vR (some (21, 0, a1))), some (vR (some (22, 0, a2))), some (vR (some (2, n3, a3))), some (vI x4), some (vI x5), some (vI xs0)], [vI z], h1) r) : Ev (d + 1) mL_law (1305, [some (vR (some (5, n0, a0))), some (vR (some (21, 0, a1))), some (vR (some (22, 0, a2))), some (vR (some (2, n3, a3))), some (vI x4), some (vI x5), none], [vI xs0], h) r :=
  s_istore [some (vR (some (5, n0, a0))), some (vR (some (21, 0, a1))), some (vR (some (22, 0, a2))), some (vR (some (2, n3, a3))), some (vI x4), some (vI x5), some (vI xs0)] rfl rfl <|
  s_aload_n rfl rfl rfl <|
  s_cvI rfl rfl rfl rfl rfl c k
theorem b5_L_law_1311 {d : Nat} {r : PO × PM} {h : PM} {n0 a0 a1 a2 n3 a3 : Nat} {x4 x5 x6 xs0 : Int} (kt : xs0 = x5 → Ev d mL_law (1318, [some (vR (some (5, n0, a0))), some (vR (some (21, 0, a1))), some (vR (some (22, 0, a2))), some (vR (some (2, n3, a3))), some (vI x4), some (vI x5), some (vI x6)], [], h) r) (kf : xs0 ≠ x5 → Ev d mL_law (1316, [some (vR (some (5, n0, a0))), some (vR (some (21, 0, a1))), some (vR (some (22, 0, a2))), some (vR (some (2, n3, a3))), some (vI x4), some (vI x5), some (vI x6)], [], h) r) : Ev d mL_law (1311, [some (vR (some (5, n0, a0))), some (vR (some (21, 0, a1))), some (vR (some (22, 0, a2))), some (vR (some (2, n3, a3))), some (vI x4), some (vI x5), some (vI x6)], [vI xs0], h) r :=
  s_iload rfl rfl rfl <|
  s_icmp_eq 1318 rfl rfl kt kf
theorem b5_L_law_1316 {d : Nat} {h : PM} {n0 a0 a1 a2 n3 a3 : Nat} {x4 x5 x6 : Int} : Ev d mL_law (1316, [some (vR (some (5, n0, a0))), some (vR (some (21, 0, a1))), some (vR (some (22, 0, a2))), some (vR (some (2, n3, a3))), some (vI x4), some (vI x5), some (vI x6)], [], h) (.inl (some (vI 0)), h) :=
  s_iconst rfl rfl <|
  s_ret rfl rfl
theorem b5_L_law_1318 {d : Nat} {r : PO × PM} {h : PM} {n0 a0 a1 a2 n3 a3 : Nat} {x4 x5 x6 : Int} (kt : x5 ≠ 0 → Ev d mL_law (1335, [some (vR (some (5, n0, a0))), some (vR (some (21, 0, a1))), some (vR (some (22, 0, a2))), some (vR (some (2, n3, a3))), some (vI x4), some (vI x5), some (vI x6)], [], h) r) (kf : x5 = 0 → Ev d mL_law (1323, [some (vR (some (5, n0, a0))), some (vR (some (21, 0, a1))), some (vR (some (22, 0, a2))), some (vR (some (2, n3, a3))), some (vI x4), some (vI x5), some (vI x6)], [], h) r) : Ev d mL_law (1318, [some (vR (some (5, n0, a0))), some (vR (some (21, 0, a1))), some (vR (some (22, 0, a2))), some (vR (some (2, n3, a3))), some (vI x4), some (vI x5), some (vI x6)], [], h) r :=
  s_iload rfl rfl rfl <|
  s_if_ne 1335 rfl rfl kt kf
theorem b5_L_law_1323 {d : Nat} {r : PO × PM} {h : PM} {n0 a0 a1 a2 n3 a3 : Nat} {x4 x5 x6 : Int} (hi1 : 0 < n3) (kt : p_lcmp (h.1 a3 0) (p_i2l x6) = 0 → Ev d mL_law (1335, [some (vR (some (5, n0, a0))), some (vR (some (21, 0, a1))), some (vR (some (22, 0, a2))), some (vR (some (2, n3, a3))), some (vI x4), some (vI x5), some (vI x6)], [], h) r) (kf : p_lcmp (h.1 a3 0) (p_i2l x6) ≠ 0 → Ev d mL_law (1333, [some (vR (some (5, n0, a0))), some (vR (some (21, 0, a1))), some (vR (some (22, 0, a2))), some (vR (some (2, n3, a3))), some (vI x4), some (vI x5), some (vI x6)], [], h) r) : Ev d mL_law (1323, [some (vR (some (5, n0, a0))), some (vR (some (21, 0, a1))), some (vR (some (22, 0, a2))), some (vR (some (2, n3, a3))), some (vI x4), some (vI x5), some (vI x6)], [], h) r :=
  s_aload_n rfl rfl rfl <|
  s_iconst rfl rfl <|
  s_lald rfl rfl (p_lit (k := 0) hi1) <|
  s_iload rfl rfl rfl <|
  s_i2l rfl <|
  s_lcmp rfl <|
  s_if_eq 1335 rfl rfl kt kf
theorem b5_L_law_1333 {d : Nat} {h : PM} {n0 a0 a1 a2 n3 a3 : Nat} {x4 x5 x6 : Int} : Ev d mL_law (1333, [some (vR (some (5, n0, a0))), some (vR (some (21, 0, a1))), some (vR (some (22, 0, a2))), some (vR (some (2, n3, a3))), some (vI x4), some (vI x5), some (vI x6)], [], h) (.inl (some (vI 0)), h) :=
  s_iconst rfl rfl <|
  s_ret rfl rfl
theorem b5_L_law_1335 {d : Nat} {r : PO × PM} {h : PM} {n0 a0 a1 a2 n3 a3 : Nat} {x4 x5 x6 : Int} (k : Ev d mL_law (2427, [some (vR (some (5, n0, a0))), some (vR (some (21, 0, a1))), some (vR (some (22, 0, a2))), some (vR (some (2, n3, a3))), some (vI x4), none, none], [], h) r) : Ev d mL_law (1335, [some (vR (some (5, n0, a0))), some (vR (some (21, 0, a1))), some (vR (some (22, 0, a2))), some (vR (some (2, n3, a3))), some (vI x4), some (vI x5), some (vI x6)], [], h) r :=
  s_goto 2427 rfl rfl (ev_forget [false, false, false, false, false, true, true] rfl k)
theorem b5_L_law_1338 {d : Nat} {r : PO × PM} {h : PM} {n0 a0 a1 a2 n3 a3 : Nat} {x4 z : Int} {h1 : PM} (ho1 : -2147483648 ≤ x4 + 1 ∧ x4 + 1 ≤ 2147483647) (hi2 : 0 ≤ x4 + 1 ∧ x4 + 1 < (n0 : Nat)) (ho3 : -2147483648 ≤ x4 + 2 ∧ x4 + 2 ≤ 2147483647) (hi4 : 0 ≤ x4 + 2 ∧ x4 + 2 < (n0 : Nat)) (c : Ca d mL_spot [vR (some (21, 0, a1)), vI (h.1 a0 (x4 + 1).toNat), vI (h.1 a0 (x4 + 2).toNat), vR (some (2, n3, a3))] h (.inl (some (vI z))) h1) (k : Ev (d + 1) mL_law (1355, [some (vR (some (5, n0, a0))), some (vR (some (21, 0, a1))), some (vR (some (22, 0, a2))), some (vR (some (2, n3, a3))), some (vI x4), none, none], [vI z], h1) r) : Ev (d + 1) mL_law (1338, [some (vR (some (5, n0, a0))), some (vR (some (21, 0, a1))), some (vR (some (22, 0, a2))), some (vR (some (2, n3, a3))), some (vI x4), none, none], [], h) r :=
  s_aload_n rfl rfl rfl <|
  s_aload_n rfl rfl rfl <|
  s_iload rfl rfl rfl <|
  s_iconst rfl rfl <|
  s_iaddp rfl ho1 <|
  s_iald rfl rfl hi2 <|
  s_aload_n rfl rfl rfl <|
  s_iload rfl rfl rfl <|
  s_iconst rfl rfl <|
  s_iaddp rfl ho3 <|
  s_iald rfl rfl hi4 <|
  s_aload_n rfl rfl rfl <|
  s_csI rfl rfl rfl rfl rfl rfl c k
theorem b5_L_law_1355 {d : Nat} {r : PO × PM} {h : PM} {n0 a0 a1 a2 n3 a3 : Nat} {x4 xs0 z : Int} {h1 : PM} (ho1 : -2147483648 ≤ x4 + 1 ∧ x4 + 1 ≤ 2147483647) (hi2 : 0 ≤ x4 + 1 ∧ x4 + 1 < (n0 : Nat)) (ho3 : -2147483648 ≤ x4 + 2 ∧ x4 + 2 ≤ 2147483647) (hi4 : 0 ≤ x4 + 2 ∧ x4 + 2 < (n0 : Nat)) (c : Ca d mX12_spot [vR (some (22, 0, a2)), vI (h.1 a0 (x4 + 1).toNat), vI (h.1 a0 (x4 + 2).toNat)] h (.inl (some (vI z))) h1) (k : Ev (d + 1) mL_law (1373, [some (vR (some (5, n0, a0))), some (vR (some (21, 0, a1))), some (vR (some (22, 0, a2))), some (vR (some (2, n3, a3))), some (vI x4), some (vI xs0), none], [vI z], h1) r) : Ev (d + 1) mL_law (1355, [some (vR (some (5, n0, a0))), some (vR (some (21, 0, a1))), some (vR (some (22, 0, a2))), some (vR (some (2, n3, a3))), some (vI x4), none, none], [vI xs0], h) r :=
  s_istore [some (vR (some (5, n0, a0))), some (vR (some (21, 0, a1))), some (vR (some (22, 0, a2))), some (vR (some (2, n3, a3))), some (vI x4), some (vI xs0), none] rfl rfl <|
  s_aload_n rfl rfl rfl <|
  s_aload_n rfl rfl rfl <|
  s_iload rfl rfl rfl <|
  s_iconst rfl rfl <|
  s_iaddp rfl ho1 <|
  s_iald rfl rfl hi2 <|
  s_aload_n rfl rfl rfl <|
  s_iload rfl rfl rfl <|
  s_iconst rfl rfl <|
  s_iaddp rfl ho3 <|
  s_iald rfl rfl hi4 <|
  s_cvI rfl rfl rfl rfl rfl c k
theorem b5_L_law_1373 {d : Nat} {r : PO × PM} {h : PM} {n0 a0 a1 a2 n3 a3 : Nat} {x4 x5 xs0 z : Int} {h1 : PM} (c : Ca d mX12_thrown [vR (some (22, 0, a2))] h (.inl (some (vI z))) h1) (k : Ev (d + 1) mL_law (1379, [some (vR (some (5, n0, a0))), some (vR (some (21, 0, a1))), some (vR (some (22, 0, a2))), some (vR (some (2, n3, a3))), some (vI x4), some (vI x5), some (vI xs0)], [vI z], h1) r) : Ev (d + 1) mL_law (1373, [some (vR (some (5, n0, a0))), some (vR (some (21, 0, a1))), some (vR (some (22, 0, a2))), some (vR (some (2, n3, a3))), some (vI x4), some (vI x5), none], [vI xs0], h) r :=
  s_istore [some (vR (some (5, n0, a0))), some (vR (some (21, 0, a1))), some (vR (some (22, 0, a2))), some (vR (some (2, n3, a3))), some (vI x4), some (vI x5), some (vI xs0)] rfl rfl <|
  s_aload_n rfl rfl rfl <|
  s_cvI rfl rfl rfl rfl rfl c k
theorem b5_L_law_1379 {d : Nat} {r : PO × PM} {h : PM} {n0 a0 a1 a2 n3 a3 : Nat} {x4 x5 x6 xs0 : Int} (kt : xs0 = x5 → Ev d mL_law (1386, [some (vR (some (5, n0, a0))), some (vR (some (21, 0, a1))), some (vR (some (22, 0, a2))), some (vR (some (2, n3, a3))), some (vI x4), some (vI x5), some (vI x6)], [], h) r) (kf : xs0 ≠ x5 → Ev d mL_law (1384, [some (vR (some (5, n0, a0))), some (vR (some (21, 0, a1))), some (vR (some (22, 0, a2))), some (vR (some (2, n3, a3))), some (vI x4), some (vI x5), some (vI x6)], [], h) r) : Ev d mL_law (1379, [some (vR (some (5, n0, a0))), some (vR (some (21, 0, a1))), some (vR (some (22, 0, a2))), some (vR (some (2, n3, a3))), some (vI x4), some (vI x5), some (vI x6)], [vI xs0], h) r :=
  s_iload rfl rfl rfl <|
  s_icmp_eq 1386 rfl rfl kt kf
theorem b5_L_law_1384 {d : Nat} {h : PM} {n0 a0 a1 a2 n3 a3 : Nat} {x4 x5 x6 : Int} : Ev d mL_law (1384, [some (vR (some (5, n0, a0))), some (vR (some (21, 0, a1))), some (vR (some (22, 0, a2))), some (vR (some (2, n3, a3))), some (vI x4), some (vI x5), some (vI x6)], [], h) (.inl (some (vI 0)), h) :=
  s_iconst rfl rfl <|
  s_ret rfl rfl
theorem b5_L_law_1386 {d : Nat} {r : PO × PM} {h : PM} {n0 a0 a1 a2 n3 a3 : Nat} {x4 x5 x6 : Int} (kt : x5 ≠ 0 → Ev d mL_law (1403, [some (vR (some (5, n0, a0))), some (vR (some (21, 0, a1))), some (vR (some (22, 0, a2))), some (vR (some (2, n3, a3))), some (vI x4), some (vI x5), some (vI x6)], [], h) r) (kf : x5 = 0 → Ev d mL_law (1391, [some (vR (some (5, n0, a0))), some (vR (some (21, 0, a1))), some (vR (some (22, 0, a2))), some (vR (some (2, n3, a3))), some (vI x4), some (vI x5), some (vI x6)], [], h) r) : Ev d mL_law (1386, [some (vR (some (5, n0, a0))), some (vR (some (21, 0, a1))), some (vR (some (22, 0, a2))), some (vR (some (2, n3, a3))), some (vI x4), some (vI x5), some (vI x6)], [], h) r :=
  s_iload rfl rfl rfl <|
  s_if_ne 1403 rfl rfl kt kf
theorem b5_L_law_1391 {d : Nat} {r : PO × PM} {h : PM} {n0 a0 a1 a2 n3 a3 : Nat} {x4 x5 x6 : Int} (hi1 : 0 < n3) (kt : p_lcmp (h.1 a3 0) (p_i2l x6) = 0 → Ev d mL_law (1403, [some (vR (some (5, n0, a0))), some (vR (some (21, 0, a1))), some (vR (some (22, 0, a2))), some (vR (some (2, n3, a3))), some (vI x4), some (vI x5), some (vI x6)], [], h) r) (kf : p_lcmp (h.1 a3 0) (p_i2l x6) ≠ 0 → Ev d mL_law (1401, [some (vR (some (5, n0, a0))), some (vR (some (21, 0, a1))), some (vR (some (22, 0, a2))), some (vR (some (2, n3, a3))), some (vI x4), some (vI x5), some (vI x6)], [], h) r) : Ev d mL_law (1391, [some (vR (some (5, n0, a0))), some (vR (some (21, 0, a1))), some (vR (some (22, 0, a2))), some (vR (some (2, n3, a3))), some (vI x4), some (vI x5), some (vI x6)], [], h) r :=
  s_aload_n rfl rfl rfl <|
  s_iconst rfl rfl <|
  s_lald rfl rfl (p_lit (k := 0) hi1) <|
  s_iload rfl rfl rfl <|
  s_i2l rfl <|
  s_lcmp rfl <|
  s_if_eq 1403 rfl rfl kt kf
theorem b5_L_law_1401 {d : Nat} {h : PM} {n0 a0 a1 a2 n3 a3 : Nat} {x4 x5 x6 : Int} : Ev d mL_law (1401, [some (vR (some (5, n0, a0))), some (vR (some (21, 0, a1))), some (vR (some (22, 0, a2))), some (vR (some (2, n3, a3))), some (vI x4), some (vI x5), some (vI x6)], [], h) (.inl (some (vI 0)), h) :=
  s_iconst rfl rfl <|
  s_ret rfl rfl
theorem b5_L_law_1403 {d : Nat} {r : PO × PM} {h : PM} {n0 a0 a1 a2 n3 a3 : Nat} {x4 x5 x6 : Int} (k : Ev d mL_law (2427, [some (vR (some (5, n0, a0))), some (vR (some (21, 0, a1))), some (vR (some (22, 0, a2))), some (vR (some (2, n3, a3))), some (vI x4), none, none], [], h) r) : Ev d mL_law (1403, [some (vR (some (5, n0, a0))), some (vR (some (21, 0, a1))), some (vR (some (22, 0, a2))), some (vR (some (2, n3, a3))), some (vI x4), some (vI x5), some (vI x6)], [], h) r :=
  s_goto 2427 rfl rfl (ev_forget [false, false, false, false, false, true, true] rfl k)
theorem b5_L_law_1406 {d : Nat} {r : PO × PM} {h : PM} {n0 a0 a1 a2 n3 a3 : Nat} {x4 z : Int} {h1 : PM} (ho1 : -2147483648 ≤ x4 + 1 ∧ x4 + 1 ≤ 2147483647) (hi2 : 0 ≤ x4 + 1 ∧ x4 + 1 < (n0 : Nat)) (ho3 : -2147483648 ≤ x4 + 2 ∧ x4 + 2 ≤ 2147483647) (hi4 : 0 ≤ x4 + 2 ∧ x4 + 2 < (n0 : Nat)) (c : Ca d mL_scaled [vR (some (21, 0, a1)), vI (h.1 a0 (x4 + 1).toNat), vI (h.1 a0 (x4 + 2).toNat), vR (some (2, n3, a3))] h (.inl (some (vI z))) h1) (k : Ev (d + 1) mL_law (1423, [some (vR (some (5, n0, a0))), some (vR (some (21, 0, a1))), some (vR (some (22, 0, a2))), some (vR (some (2, n3, a3))), some (vI x4), none, none], [vI z], h1) r) : Ev (d + 1) mL_law (1406, [some (vR (some (5, n0, a0))), some (vR (some (21, 0, a1))), some (vR (some (22, 0, a2))), some (vR (some (2, n3, a3))), some (vI x4), none, none], [], h) r :=
  s_aload_n rfl rfl rfl <|
  s_aload_n rfl rfl rfl <|
  s_iload rfl rfl rfl <|
  s_iconst rfl rfl <|
  s_iaddp rfl ho1 <|
  s_iald rfl rfl hi2 <|
  s_aload_n rfl rfl rfl <|
  s_iload rfl rfl rfl <|
  s_iconst rfl rfl <|
  s_iaddp rfl ho3 <|
  s_iald rfl rfl hi4 <|
  s_aload_n rfl rfl rfl <|
  s_csI rfl rfl rfl rfl rfl rfl c k
theorem b5_L_law_1423 {d : Nat} {r : PO × PM} {h : PM} {n0 a0 a1 a2 n3 a3 : Nat} {x4 xs0 z : Int} {h1 : PM} (ho1 : -2147483648 ≤ x4 + 1 ∧ x4 + 1 ≤ 2147483647) (hi2 : 0 ≤ x4 + 1 ∧ x4 + 1 < (n0 : Nat)) (ho3 : -2147483648 ≤ x4 + 2 ∧ x4 + 2 ≤ 2147483647) (hi4 : 0 ≤ x4 + 2 ∧ x4 + 2 < (n0 : Nat)) (c : Ca d mX12_scaled [vR (some (22, 0, a2)), vI (h.1 a0 (x4 + 1).toNat), vI (h.1 a0 (x4 + 2).toNat)] h (.inl (some (vI z))) h1) (k : Ev (d + 1) mL_law (1441, [some (vR (some (5, n0, a0))), some (vR (some (21, 0, a1))), some (vR (some (22, 0, a2))), some (vR (some (2, n3, a3))), some (vI x4), some (vI xs0), none], [vI z], h1) r) : Ev (d + 1) mL_law (1423, [some (vR (some (5, n0, a0))), some (vR (some (21, 0, a1))), some (vR (some (22, 0, a2))), some (vR (some (2, n3, a3))), some (vI x4), none, none], [vI xs0], h) r :=
  s_istore [some (vR (some (5, n0, a0))), some (vR (some (21, 0, a1))), some (vR (some (22, 0, a2))), some (vR (some (2, n3, a3))), some (vI x4), some (vI xs0), none] rfl rfl <|
  s_aload_n rfl rfl rfl <|
  s_aload_n rfl rfl rfl <|
  s_iload rfl rfl rfl <|
  s_iconst rfl rfl <|
  s_iaddp rfl ho1 <|
  s_iald rfl rfl hi2 <|
  s_aload_n rfl rfl rfl <|
  s_iload rfl rfl rfl <|
  s_iconst rfl rfl <|
  s_iaddp rfl ho3 <|
  s_iald rfl rfl hi4 <|
  s_cvI rfl rfl rfl rfl rfl c k
theorem b5_L_law_1441 {d : Nat} {r : PO × PM} {h : PM} {n0 a0 a1 a2 n3 a3 : Nat} {x4 x5 xs0 z : Int} {h1 : PM} (c : Ca d mX12_thrown [vR (some (22, 0, a2))] h (.inl (some (vI z))) h1) (k : Ev (d + 1) mL_law (1447, [some (vR (some (5, n0, a0))), some (vR (some (21, 0, a1))), some (vR (some (22, 0, a2))), some (vR (some (2, n3, a3))), some (vI x4), some (vI x5), some (vI xs0)], [vI z], h1) r) : Ev (d + 1) mL_law (1441, [some (vR (some (5, n0, a0))), some (vR (some (21, 0, a1))), some (vR (some (22, 0, a2))), some (vR (some (2, n3, a3))), some (vI x4), some (vI x5), none], [vI xs0], h) r :=
  s_istore [some (vR (some (5, n0, a0))), some (vR (some (21, 0, a1))), some (vR (some (22, 0, a2))), some (vR (some (2, n3, a3))), some (vI x4), some (vI x5), some (vI xs0)] rfl rfl <|
  s_aload_n rfl rfl rfl <|
  s_cvI rfl rfl rfl rfl rfl c k
theorem b5_L_law_1447 {d : Nat} {r : PO × PM} {h : PM} {n0 a0 a1 a2 n3 a3 : Nat} {x4 x5 x6 xs0 : Int} (kt : xs0 = x5 → Ev d mL_law (1454, [some (vR (some (5, n0, a0))), some (vR (some (21, 0, a1))), some (vR (some (22, 0, a2))), some (vR (some (2, n3, a3))), some (vI x4), some (vI x5), some (vI x6)], [], h) r) (kf : xs0 ≠ x5 → Ev d mL_law (1452, [some (vR (some (5, n0, a0))), some (vR (some (21, 0, a1))), some (vR (some (22, 0, a2))), some (vR (some (2, n3, a3))), some (vI x4), some (vI x5), some (vI x6)], [], h) r) : Ev d mL_law (1447, [some (vR (some (5, n0, a0))), some (vR (some (21, 0, a1))), some (vR (some (22, 0, a2))), some (vR (some (2, n3, a3))), some (vI x4), some (vI x5), some (vI x6)], [vI xs0], h) r :=
  s_iload rfl rfl rfl <|
  s_icmp_eq 1454 rfl rfl kt kf
theorem b5_L_law_1452 {d : Nat} {h : PM} {n0 a0 a1 a2 n3 a3 : Nat} {x4 x5 x6 : Int} : Ev d mL_law (1452, [some (vR (some (5, n0, a0))), some (vR (some (21, 0, a1))), some (vR (some (22, 0, a2))), some (vR (some (2, n3, a3))), some (vI x4), some (vI x5), some (vI x6)], [], h) (.inl (some (vI 0)), h) :=
  s_iconst rfl rfl <|
  s_ret rfl rfl
theorem b5_L_law_1454 {d : Nat} {r : PO × PM} {h : PM} {n0 a0 a1 a2 n3 a3 : Nat} {x4 x5 x6 : Int} (kt : x5 ≠ 0 → Ev d mL_law (1471, [some (vR (some (5, n0, a0))), some (vR (some (21, 0, a1))), some (vR (some (22, 0, a2))), some (vR (some (2, n3, a3))), some (vI x4), some (vI x5), some (vI x6)], [], h) r) (kf : x5 = 0 → Ev d mL_law (1459, [some (vR (some (5, n0, a0))), some (vR (some (21, 0, a1))), some (vR (some (22, 0, a2))), some (vR (some (2, n3, a3))), some (vI x4), some (vI x5), some (vI x6)], [], h) r) : Ev d mL_law (1454, [some (vR (some (5, n0, a0))), some (vR (some (21, 0, a1))), some (vR (some (22, 0, a2))), some (vR (some (2, n3, a3))), some (vI x4), some (vI x5), some (vI x6)], [], h) r :=
  s_iload rfl rfl rfl <|
  s_if_ne 1471 rfl rfl kt kf
theorem b5_L_law_1459 {d : Nat} {r : PO × PM} {h : PM} {n0 a0 a1 a2 n3 a3 : Nat} {x4 x5 x6 : Int} (hi1 : 0 < n3) (kt : p_lcmp (h.1 a3 0) (p_i2l x6) = 0 → Ev d mL_law (1471, [some (vR (some (5, n0, a0))), some (vR (some (21, 0, a1))), some (vR (some (22, 0, a2))), some (vR (some (2, n3, a3))), some (vI x4), some (vI x5), some (vI x6)], [], h) r) (kf : p_lcmp (h.1 a3 0) (p_i2l x6) ≠ 0 → Ev d mL_law (1469, [some (vR (some (5, n0, a0))), some (vR (some (21, 0, a1))), some (vR (some (22, 0, a2))), some (vR (some (2, n3, a3))), some (vI x4), some (vI x5), some (vI x6)], [], h) r) : Ev d mL_law (1459, [some (vR (some (5, n0, a0))), some (vR (some (21, 0, a1))), some (vR (some (22, 0, a2))), some (vR (some (2, n3, a3))), some (vI x4), some (vI x5), some (vI x6)], [], h) r :=
  s_aload_n rfl rfl rfl <|
  s_iconst rfl rfl <|
  s_lald rfl rfl (p_lit (k := 0) hi1) <|
  s_iload rfl rfl rfl <|
  s_i2l rfl <|
  s_lcmp rfl <|
  s_if_eq 1471 rfl rfl kt kf
theorem b5_L_law_1469 {d : Nat} {h : PM} {n0 a0 a1 a2 n3 a3 : Nat} {x4 x5 x6 : Int} : Ev d mL_law (1469, [some (vR (some (5, n0, a0))), some (vR (some (21, 0, a1))), some (vR (some (22, 0, a2))), some (vR (some (2, n3, a3))), some (vI x4), some (vI x5), some (vI x6)], [], h) (.inl (some (vI 0)), h) :=
  s_iconst rfl rfl <|
  s_ret rfl rfl
theorem b5_L_law_1471 {d : Nat} {r : PO × PM} {h : PM} {n0 a0 a1 a2 n3 a3 : Nat} {x4 x5 x6 : Int} (k : Ev d mL_law (2427, [some (vR (some (5, n0, a0))), some (vR (some (21, 0, a1))), some (vR (some (22, 0, a2))), some (vR (some (2, n3, a3))), some (vI x4), none, none], [], h) r) : Ev d mL_law (1471, [some (vR (some (5, n0, a0))), some (vR (some (21, 0, a1))), some (vR (some (22, 0, a2))), some (vR (some (2, n3, a3))), some (vI x4), some (vI x5), some (vI x6)], [], h) r :=
  s_goto 2427 rfl rfl (ev_forget [false, false, false, false, false, true, true] rfl k)
theorem b5_L_law_1474 {d : Nat} {r : PO × PM} {h : PM} {n0 a0 a1 a2 n3 a3 : Nat} {x4 z : Int} {h1 : PM} (ho1 : -2147483648 ≤ x4 + 1 ∧ x4 + 1 ≤ 2147483647) (hi2 : 0 ≤ x4 + 1 ∧ x4 + 1 < (n0 : Nat)) (ho3 : -2147483648 ≤ x4 + 2 ∧ x4 + 2 ≤ 2147483647) (hi4 : 0 ≤ x4 + 2 ∧ x4 + 2 < (n0 : Nat)) (c : Ca d mL_rule [vR (some (21, 0, a1)), vI (h.1 a0 (x4 + 1).toNat), vI (h.1 a0 (x4 + 2).toNat), vR (some (2, n3, a3))] h (.inl (some (vI z))) h1) (k : Ev (d + 1) mL_law (1491, [some (vR (some (5, n0, a0))), some (vR (some (21, 0, a1))), some (vR (some (22, 0, a2))), some (vR (some (2, n3, a3))), some (vI x4), none, none], [vI z], h1) r) : Ev (d + 1) mL_law (1474, [some (vR (some (5, n0, a0))), some (vR (some (21, 0, a1))), some (vR (some (22, 0, a2))), some (vR (some (2, n3, a3))), some (vI x4), none, none], [], h) r :=
  s_aload_n rfl rfl rfl <|
  s_aload_n rfl rfl rfl <|
  s_iload rfl rfl rfl <|
  s_iconst rfl rfl <|
  s_iaddp rfl ho1 <|
  s_iald rfl rfl hi2 <|
  s_aload_n rfl rfl rfl <|
  s_iload rfl rfl rfl <|
  s_iconst rfl rfl <|
  s_iaddp rfl ho3 <|
  s_iald rfl rfl hi4 <|
  s_aload_n rfl rfl rfl <|
  s_csI rfl rfl rfl rfl rfl rfl c k
theorem b5_L_law_1491 {d : Nat} {r : PO × PM} {h : PM} {n0 a0 a1 a2 n3 a3 : Nat} {x4 xs0 z : Int} {h1 : PM} (ho1 : -2147483648 ≤ x4 + 1 ∧ x4 + 1 ≤ 2147483647) (hi2 : 0 ≤ x4 + 1 ∧ x4 + 1 < (n0 : Nat)) (ho3 : -2147483648 ≤ x4 + 2 ∧ x4 + 2 ≤ 2147483647) (hi4 : 0 ≤ x4 + 2 ∧ x4 + 2 < (n0 : Nat)) (c : Ca d mX12_rule [vR (some (22, 0, a2)), vI (h.1 a0 (x4 + 1).toNat), vI (h.1 a0 (x4 + 2).toNat)] h (.inl (some (vI z))) h1) (k : Ev (d + 1) mL_law (1509, [some (vR (some (5, n0, a0))), some (vR (some (21, 0, a1))), some (vR (some (22, 0, a2))), some (vR (some (2, n3, a3))), some (vI x4), some (vI xs0), none], [vI z], h1) r) : Ev (d + 1) mL_law (1491, [some (vR (some (5, n0, a0))), some (vR (some (21, 0, a1))), some (vR (some (22, 0, a2))), some (vR (some (2, n3, a3))), some (vI x4), none, none], [vI xs0], h) r :=
  s_istore [some (vR (some (5, n0, a0))), some (vR (some (21, 0, a1))), some (vR (some (22, 0, a2))), some (vR (some (2, n3, a3))), some (vI x4), some (vI xs0), none] rfl rfl <|
  s_aload_n rfl rfl rfl <|
  s_aload_n rfl rfl rfl <|
  s_iload rfl rfl rfl <|
  s_iconst rfl rfl <|
  s_iaddp rfl ho1 <|
  s_iald rfl rfl hi2 <|
  s_aload_n rfl rfl rfl <|
  s_iload rfl rfl rfl <|
  s_iconst rfl rfl <|
  s_iaddp rfl ho3 <|
  s_iald rfl rfl hi4 <|
  s_cvI rfl rfl rfl rfl rfl c k
theorem b5_L_law_1509 {d : Nat} {r : PO × PM} {h : PM} {n0 a0 a1 a2 n3 a3 : Nat} {x4 x5 xs0 z : Int} {h1 : PM} (c : Ca d mX12_thrown [vR (some (22, 0, a2))] h (.inl (some (vI z))) h1) (k : Ev (d + 1) mL_law (1515, [some (vR (some (5, n0, a0))), some (vR (some (21, 0, a1))), some (vR (some (22, 0, a2))), some (vR (some (2, n3, a3))), some (vI x4), some (vI x5), some (vI xs0)], [vI z], h1) r) : Ev (d + 1) mL_law (1509, [some (vR (some (5, n0, a0))), some (vR (some (21, 0, a1))), some (vR (some (22, 0, a2))), some (vR (some (2, n3, a3))), some (vI x4), some (vI x5), none], [vI xs0], h) r :=
  s_istore [some (vR (some (5, n0, a0))), some (vR (some (21, 0, a1))), some (vR (some (22, 0, a2))), some (vR (some (2, n3, a3))), some (vI x4), some (vI x5), some (vI xs0)] rfl rfl <|
  s_aload_n rfl rfl rfl <|
  s_cvI rfl rfl rfl rfl rfl c k
theorem b5_L_law_1515 {d : Nat} {r : PO × PM} {h : PM} {n0 a0 a1 a2 n3 a3 : Nat} {x4 x5 x6 xs0 : Int} (kt : xs0 = x5 → Ev d mL_law (1522, [some (vR (some (5, n0, a0))), some (vR (some (21, 0, a1))), some (vR (some (22, 0, a2))), some (vR (some (2, n3, a3))), some (vI x4), some (vI x5), some (vI x6)], [], h) r) (kf : xs0 ≠ x5 → Ev d mL_law (1520, [some (vR (some (5, n0, a0))), some (vR (some (21, 0, a1))), some (vR (some (22, 0, a2))), some (vR (some (2, n3, a3))), some (vI x4), some (vI x5), some (vI x6)], [], h) r) : Ev d mL_law (1515, [some (vR (some (5, n0, a0))), some (vR (some (21, 0, a1))), some (vR (some (22, 0, a2))), some (vR (some (2, n3, a3))), some (vI x4), some (vI x5), some (vI x6)], [vI xs0], h) r :=
  s_iload rfl rfl rfl <|
  s_icmp_eq 1522 rfl rfl kt kf
theorem b5_L_law_1520 {d : Nat} {h : PM} {n0 a0 a1 a2 n3 a3 : Nat} {x4 x5 x6 : Int} : Ev d mL_law (1520, [some (vR (some (5, n0, a0))), some (vR (some (21, 0, a1))), some (vR (some (22, 0, a2))), some (vR (some (2, n3, a3))), some (vI x4), some (vI x5), some (vI x6)], [], h) (.inl (some (vI 0)), h) :=
  s_iconst rfl rfl <|
  s_ret rfl rfl
theorem b5_L_law_1522 {d : Nat} {r : PO × PM} {h : PM} {n0 a0 a1 a2 n3 a3 : Nat} {x4 x5 x6 : Int} (kt : x5 ≠ 0 → Ev d mL_law (1539, [some (vR (some (5, n0, a0))), some (vR (some (21, 0, a1))), some (vR (some (22, 0, a2))), some (vR (some (2, n3, a3))), some (vI x4), some (vI x5), some (vI x6)], [], h) r) (kf : x5 = 0 → Ev d mL_law (1527, [some (vR (some (5, n0, a0))), some (vR (some (21, 0, a1))), some (vR (some (22, 0, a2))), some (vR (some (2, n3, a3))), some (vI x4), some (vI x5), some (vI x6)], [], h) r) : Ev d mL_law (1522, [some (vR (some (5, n0, a0))), some (vR (some (21, 0, a1))), some (vR (some (22, 0, a2))), some (vR (some (2, n3, a3))), some (vI x4), some (vI x5), some (vI x6)], [], h) r :=
  s_iload rfl rfl rfl <|
  s_if_ne 1539 rfl rfl kt kf
theorem b5_L_law_1527 {d : Nat} {r : PO × PM} {h : PM} {n0 a0 a1 a2 n3 a3 : Nat} {x4 x5 x6 : Int} (hi1 : 0 < n3) (kt : p_lcmp (h.1 a3 0) (p_i2l x6) = 0 → Ev d mL_law (1539, [some (vR (some (5, n0, a0))), some (vR (some (21, 0, a1))), some (vR (some (22, 0, a2))), some (vR (some (2, n3, a3))), some (vI x4), some (vI x5), some (vI x6)], [], h) r) (kf : p_lcmp (h.1 a3 0) (p_i2l x6) ≠ 0 → Ev d mL_law (1537, [some (vR (some (5, n0, a0))), some (vR (some (21, 0, a1))), some (vR (some (22, 0, a2))), some (vR (some (2, n3, a3))), some (vI x4), some (vI x5), some (vI x6)], [], h) r) : Ev d mL_law (1527, [some (vR (some (5, n0, a0))), some (vR (some (21, 0, a1))), some (vR (some (22, 0, a2))), some (vR (some (2, n3, a3))), some (vI x4), some (vI x5), some (vI x6)], [], h) r :=
  s_aload_n rfl rfl rfl <|
  s_iconst rfl rfl <|
  s_lald rfl rfl (p_lit (k := 0) hi1) <|
  s_iload rfl rfl rfl <|
  s_i2l rfl <|
  s_lcmp rfl <|
  s_if_eq 1539 rfl rfl kt kf
theorem b5_L_law_1537 {d : Nat} {h : PM} {n0 a0 a1 a2 n3 a3 : Nat} {x4 x5 x6 : Int} : Ev d mL_law (1537, [some (vR (some (5, n0, a0))), some (vR (some (21, 0, a1))), some (vR (some (22, 0, a2))), some (vR (some (2, n3, a3))), some (vI x4), some (vI x5), some (vI x6)], [], h) (.inl (some (vI 0)), h) :=
  s_iconst rfl rfl <|
  s_ret rfl rfl
theorem b5_L_law_1539 {d : Nat} {r : PO × PM} {h : PM} {n0 a0 a1 a2 n3 a3 : Nat} {x4 x5 x6 : Int} (k : Ev d mL_law (2427, [some (vR (some (5, n0, a0))), some (vR (some (21, 0, a1))), some (vR (some (22, 0, a2))), some (vR (some (2, n3, a3))), some (vI x4), none, none], [], h) r) : Ev d mL_law (1539, [some (vR (some (5, n0, a0))), some (vR (some (21, 0, a1))), some (vR (some (22, 0, a2))), some (vR (some (2, n3, a3))), some (vI x4), some (vI x5), some (vI x6)], [], h) r :=
  s_goto 2427 rfl rfl (ev_forget [false, false, false, false, false, true, true] rfl k)
theorem b5_L_law_1542 {d : Nat} {r : PO × PM} {h : PM} {n0 a0 a1 a2 n3 a3 : Nat} {x4 z : Int} {h1 : PM} (ho1 : -2147483648 ≤ x4 + 1 ∧ x4 + 1 ≤ 2147483647) (hi2 : 0 ≤ x4 + 1 ∧ x4 + 1 < (n0 : Nat)) (ho3 : -2147483648 ≤ x4 + 2 ∧ x4 + 2 ≤ 2147483647) (hi4 : 0 ≤ x4 + 2 ∧ x4 + 2 < (n0 : Nat)) (c : Ca d mL_paint [vR (some (21, 0, a1)), vI (h.1 a0 (x4 + 1).toNat), vI (h.1 a0 (x4 + 2).toNat), vR (some (2, n3, a3))] h (.inl (some (vI z))) h1) (k : Ev (d + 1) mL_law (1559, [some (vR (some (5, n0, a0))), some (vR (some (21, 0, a1))), some (vR (some (22, 0, a2))), some (vR (some (2, n3, a3))), some (vI x4), none, none], [vI z], h1) r) : Ev (d + 1) mL_law (1542, [some (vR (some (5, n0, a0))), some (vR (some (21, 0, a1))), some (vR (some (22, 0, a2))), some (vR (some (2, n3, a3))), some (vI x4), none, none], [], h) r :=
  s_aload_n rfl rfl rfl <|
  s_aload_n rfl rfl rfl <|
  s_iload rfl rfl rfl <|
  s_iconst rfl rfl <|
  s_iaddp rfl ho1 <|
  s_iald rfl rfl hi2 <|
  s_aload_n rfl rfl rfl <|
  s_iload rfl rfl rfl <|
  s_iconst rfl rfl <|
  s_iaddp rfl ho3 <|
  s_iald rfl rfl hi4 <|
  s_aload_n rfl rfl rfl <|
  s_csI rfl rfl rfl rfl rfl rfl c k
theorem b5_L_law_1559 {d : Nat} {r : PO × PM} {h : PM} {n0 a0 a1 a2 n3 a3 : Nat} {x4 xs0 z : Int} {h1 : PM} (ho1 : -2147483648 ≤ x4 + 1 ∧ x4 + 1 ≤ 2147483647) (hi2 : 0 ≤ x4 + 1 ∧ x4 + 1 < (n0 : Nat)) (ho3 : -2147483648 ≤ x4 + 2 ∧ x4 + 2 ≤ 2147483647) (hi4 : 0 ≤ x4 + 2 ∧ x4 + 2 < (n0 : Nat)) (c : Ca d mX12_paint [vR (some (22, 0, a2)), vI (h.1 a0 (x4 + 1).toNat), vI (h.1 a0 (x4 + 2).toNat)] h (.inl (some (vI z))) h1) (k : Ev (d + 1) mL_law (1577, [some (vR (some (5, n0, a0))), some (vR (some (21, 0, a1))), some (vR (some (22, 0, a2))), some (vR (some (2, n3, a3))), some (vI x4), some (vI xs0), none], [vI z], h1) r) : Ev (d + 1) mL_law (1559, [some (vR (some (5, n0, a0))), some (vR (some (21, 0, a1))), some (vR (some (22, 0, a2))), some (vR (some (2, n3, a3))), some (vI x4), none, none], [vI xs0], h) r :=
  s_istore [some (vR (some (5, n0, a0))), some (vR (some (21, 0, a1))), some (vR (some (22, 0, a2))), some (vR (some (2, n3, a3))), some (vI x4), some (vI xs0), none] rfl rfl <|
  s_aload_n rfl rfl rfl <|
  s_aload_n rfl rfl rfl <|
  s_iload rfl rfl rfl <|
  s_iconst rfl rfl <|
  s_iaddp rfl ho1 <|
  s_iald rfl rfl hi2 <|
  s_aload_n rfl rfl rfl <|
  s_iload rfl rfl rfl <|
  s_iconst rfl rfl <|
  s_iaddp rfl ho3 <|
  s_iald rfl rfl hi4 <|
  s_cvI rfl rfl rfl rfl rfl c k
theorem b5_L_law_1577 {d : Nat} {r : PO × PM} {h : PM} {n0 a0 a1 a2 n3 a3 : Nat} {x4 x5 xs0 z : Int} {h1 : PM} (c : Ca d mX12_thrown [vR (some (22, 0, a2))] h (.inl (some (vI z))) h1) (k : Ev (d + 1) mL_law (1583, [some (vR (some (5, n0, a0))), some (vR (some (21, 0, a1))), some (vR (some (22, 0, a2))), some (vR (some (2, n3, a3))), some (vI x4), some (vI x5), some (vI xs0)], [vI z], h1) r) : Ev (d + 1) mL_law (1577, [some (vR (some (5, n0, a0))), some (vR (some (21, 0, a1))), some (vR (some (22, 0, a2))), some (vR (some (2, n3, a3))), some (vI x4), some (vI x5), none], [vI xs0], h) r :=
  s_istore [some (vR (some (5, n0, a0))), some (vR (some (21, 0, a1))), some (vR (some (22, 0, a2))), some (vR (some (2, n3, a3))), some (vI x4), some (vI x5), some (vI xs0)] rfl rfl <|
  s_aload_n rfl rfl rfl <|
  s_cvI rfl rfl rfl rfl rfl c k
theorem b5_L_law_1583 {d : Nat} {r : PO × PM} {h : PM} {n0 a0 a1 a2 n3 a3 : Nat} {x4 x5 x6 xs0 : Int} (kt : xs0 = x5 → Ev d mL_law (1590, [some (vR (some (5, n0, a0))), some (vR (some (21, 0, a1))), some (vR (some (22, 0, a2))), some (vR (some (2, n3, a3))), some (vI x4), some (vI x5), some (vI x6)], [], h) r) (kf : xs0 ≠ x5 → Ev d mL_law (1588, [some (vR (some (5, n0, a0))), some (vR (some (21, 0, a1))), some (vR (some (22, 0, a2))), some (vR (some (2, n3, a3))), some (vI x4), some (vI x5), some (vI x6)], [], h) r) : Ev d mL_law (1583, [some (vR (some (5, n0, a0))), some (vR (some (21, 0, a1))), some (vR (some (22, 0, a2))), some (vR (some (2, n3, a3))), some (vI x4), some (vI x5), some (vI x6)], [vI xs0], h) r :=
  s_iload rfl rfl rfl <|
  s_icmp_eq 1590 rfl rfl kt kf
theorem b5_L_law_1588 {d : Nat} {h : PM} {n0 a0 a1 a2 n3 a3 : Nat} {x4 x5 x6 : Int} : Ev d mL_law (1588, [some (vR (some (5, n0, a0))), some (vR (some (21, 0, a1))), some (vR (some (22, 0, a2))), some (vR (some (2, n3, a3))), some (vI x4), some (vI x5), some (vI x6)], [], h) (.inl (some (vI 0)), h) :=
  s_iconst rfl rfl <|
  s_ret rfl rfl
theorem b5_L_law_1590 {d : Nat} {r : PO × PM} {h : PM} {n0 a0 a1 a2 n3 a3 : Nat} {x4 x5 x6 : Int} (kt : x5 ≠ 0 → Ev d mL_law (1607, [some (vR (some (5, n0, a0))), some (vR (some (21, 0, a1))), some (vR (some (22, 0, a2))), some (vR (some (2, n3, a3))), some (vI x4), some (vI x5), some (vI x6)], [], h) r) (kf : x5 = 0 → Ev d mL_law (1595, [some (vR (some (5, n0, a0))), some (vR (some (21, 0, a1))), some (vR (some (22, 0, a2))), some (vR (some (2, n3, a3))), some (vI x4), some (vI x5), some (vI x6)], [], h) r) : Ev d mL_law (1590, [some (vR (some (5, n0, a0))), some (vR (some (21, 0, a1))), some (vR (some (22, 0, a2))), some (vR (some (2, n3, a3))), some (vI x4), some (vI x5), some (vI x6)], [], h) r :=
  s_iload rfl rfl rfl <|
  s_if_ne 1607 rfl rfl kt kf
theorem b5_L_law_1595 {d : Nat} {r : PO × PM} {h : PM} {n0 a0 a1 a2 n3 a3 : Nat} {x4 x5 x6 : Int} (hi1 : 0 < n3) (kt : p_lcmp (h.1 a3 0) (p_i2l x6) = 0 → Ev d mL_law (1607, [some (vR (some (5, n0, a0))), some (vR (some (21, 0, a1))), some (vR (some (22, 0, a2))), some (vR (some (2, n3, a3))), some (vI x4), some (vI x5), some (vI x6)], [], h) r) (kf : p_lcmp (h.1 a3 0) (p_i2l x6) ≠ 0 → Ev d mL_law (1605, [some (vR (some (5, n0, a0))), some (vR (some (21, 0, a1))), some (vR (some (22, 0, a2))), some (vR (some (2, n3, a3))), some (vI x4), some (vI x5), some (vI x6)], [], h) r) : Ev d mL_law (1595, [some (vR (some (5, n0, a0))), some (vR (some (21, 0, a1))), some (vR (some (22, 0, a2))), some (vR (some (2, n3, a3))), some (vI x4), some (vI x5), some (vI x6)], [], h) r :=
  s_aload_n rfl rfl rfl <|
  s_iconst rfl rfl <|
  s_lald rfl rfl (p_lit (k := 0) hi1) <|
  s_iload rfl rfl rfl <|
  s_i2l rfl <|
  s_lcmp rfl <|
  s_if_eq 1607 rfl rfl kt kf
theorem b5_L_law_1605 {d : Nat} {h : PM} {n0 a0 a1 a2 n3 a3 : Nat} {x4 x5 x6 : Int} : Ev d mL_law (1605, [some (vR (some (5, n0, a0))), some (vR (some (21, 0, a1))), some (vR (some (22, 0, a2))), some (vR (some (2, n3, a3))), some (vI x4), some (vI x5), some (vI x6)], [], h) (.inl (some (vI 0)), h) :=
  s_iconst rfl rfl <|
  s_ret rfl rfl
theorem b5_L_law_1607 {d : Nat} {r : PO × PM} {h : PM} {n0 a0 a1 a2 n3 a3 : Nat} {x4 x5 x6 : Int} (k : Ev d mL_law (2427, [some (vR (some (5, n0, a0))), some (vR (some (21, 0, a1))), some (vR (some (22, 0, a2))), some (vR (some (2, n3, a3))), some (vI x4), none, none], [], h) r) : Ev d mL_law (1607, [some (vR (some (5, n0, a0))), some (vR (some (21, 0, a1))), some (vR (some (22, 0, a2))), some (vR (some (2, n3, a3))), some (vI x4), some (vI x5), some (vI x6)], [], h) r :=
  s_goto 2427 rfl rfl (ev_forget [false, false, false, false, false, true, true] rfl k)
theorem b5_L_law_1610 {d : Nat} {r : PO × PM} {h : PM} {n0 a0 a1 a2 n3 a3 : Nat} {x4 z : Int} {h1 : PM} (ho1 : -2147483648 ≤ x4 + 1 ∧ x4 + 1 ≤ 2147483647) (hi2 : 0 ≤ x4 + 1 ∧ x4 + 1 < (n0 : Nat)) (c : Ca d mL_wash [vR (some (21, 0, a1)), vI (h.1 a0 (x4 + 1).toNat), vR (some (2, n3, a3))] h (.inl (some (vI z))) h1) (k : Ev (d + 1) mL_law (1621, [some (vR (some (5, n0, a0))), some (vR (some (21, 0, a1))), some (vR (some (22, 0, a2))), some (vR (some (2, n3, a3))), some (vI x4), none, none], [vI z], h1) r) : Ev (d + 1) mL_law (1610, [some (vR (some (5, n0, a0))), some (vR (some (21, 0, a1))), some (vR (some (22, 0, a2))), some (vR (some (2, n3, a3))), some (vI x4), none, none], [], h) r :=
  s_aload_n rfl rfl rfl <|
  s_aload_n rfl rfl rfl <|
  s_iload rfl rfl rfl <|
  s_iconst rfl rfl <|
  s_iaddp rfl ho1 <|
  s_iald rfl rfl hi2 <|
  s_aload_n rfl rfl rfl <|
  s_csI rfl rfl rfl rfl rfl rfl c k
theorem b5_L_law_1621 {d : Nat} {r : PO × PM} {h : PM} {n0 a0 a1 a2 n3 a3 : Nat} {x4 xs0 z : Int} {h1 : PM} (ho1 : -2147483648 ≤ x4 + 1 ∧ x4 + 1 ≤ 2147483647) (hi2 : 0 ≤ x4 + 1 ∧ x4 + 1 < (n0 : Nat)) (c : Ca d mX12_wash [vR (some (22, 0, a2)), vI (h.1 a0 (x4 + 1).toNat)] h (.inl (some (vI z))) h1) (k : Ev (d + 1) mL_law (1633, [some (vR (some (5, n0, a0))), some (vR (some (21, 0, a1))), some (vR (some (22, 0, a2))), some (vR (some (2, n3, a3))), some (vI x4), some (vI xs0), none], [vI z], h1) r) : Ev (d + 1) mL_law (1621, [some (vR (some (5, n0, a0))), some (vR (some (21, 0, a1))), some (vR (some (22, 0, a2))), some (vR (some (2, n3, a3))), some (vI x4), none, none], [vI xs0], h) r :=
  s_istore [some (vR (some (5, n0, a0))), some (vR (some (21, 0, a1))), some (vR (some (22, 0, a2))), some (vR (some (2, n3, a3))), some (vI x4), some (vI xs0), none] rfl rfl <|
  s_aload_n rfl rfl rfl <|
  s_aload_n rfl rfl rfl <|
  s_iload rfl rfl rfl <|
  s_iconst rfl rfl <|
  s_iaddp rfl ho1 <|
  s_iald rfl rfl hi2 <|
  s_cvI rfl rfl rfl rfl rfl c k
theorem b5_L_law_1633 {d : Nat} {r : PO × PM} {h : PM} {n0 a0 a1 a2 n3 a3 : Nat} {x4 x5 xs0 z : Int} {h1 : PM} (c : Ca d mX12_thrown [vR (some (22, 0, a2))] h (.inl (some (vI z))) h1) (k : Ev (d + 1) mL_law (1639, [some (vR (some (5, n0, a0))), some (vR (some (21, 0, a1))), some (vR (some (22, 0, a2))), some (vR (some (2, n3, a3))), some (vI x4), some (vI x5), some (vI xs0)], [vI z], h1) r) : Ev (d + 1) mL_law (1633, [some (vR (some (5, n0, a0))), some (vR (some (21, 0, a1))), some (vR (some (22, 0, a2))), some (vR (some (2, n3, a3))), some (vI x4), some (vI x5), none], [vI xs0], h) r :=
  s_istore [some (vR (some (5, n0, a0))), some (vR (some (21, 0, a1))), some (vR (some (22, 0, a2))), some (vR (some (2, n3, a3))), some (vI x4), some (vI x5), some (vI xs0)] rfl rfl <|
  s_aload_n rfl rfl rfl <|
  s_cvI rfl rfl rfl rfl rfl c k
theorem b5_L_law_1639 {d : Nat} {r : PO × PM} {h : PM} {n0 a0 a1 a2 n3 a3 : Nat} {x4 x5 x6 xs0 : Int} (kt : xs0 = x5 → Ev d mL_law (1646, [some (vR (some (5, n0, a0))), some (vR (some (21, 0, a1))), some (vR (some (22, 0, a2))), some (vR (some (2, n3, a3))), some (vI x4), some (vI x5), some (vI x6)], [], h) r) (kf : xs0 ≠ x5 → Ev d mL_law (1644, [some (vR (some (5, n0, a0))), some (vR (some (21, 0, a1))), some (vR (some (22, 0, a2))), some (vR (some (2, n3, a3))), some (vI x4), some (vI x5), some (vI x6)], [], h) r) : Ev d mL_law (1639, [some (vR (some (5, n0, a0))), some (vR (some (21, 0, a1))), some (vR (some (22, 0, a2))), some (vR (some (2, n3, a3))), some (vI x4), some (vI x5), some (vI x6)], [vI xs0], h) r :=
  s_iload rfl rfl rfl <|
  s_icmp_eq 1646 rfl rfl kt kf
theorem b5_L_law_1644 {d : Nat} {h : PM} {n0 a0 a1 a2 n3 a3 : Nat} {x4 x5 x6 : Int} : Ev d mL_law (1644, [some (vR (some (5, n0, a0))), some (vR (some (21, 0, a1))), some (vR (some (22, 0, a2))), some (vR (some (2, n3, a3))), some (vI x4), some (vI x5), some (vI x6)], [], h) (.inl (some (vI 0)), h) :=
  s_iconst rfl rfl <|
  s_ret rfl rfl
theorem b5_L_law_1646 {d : Nat} {r : PO × PM} {h : PM} {n0 a0 a1 a2 n3 a3 : Nat} {x4 x5 x6 : Int} (kt : x5 ≠ 0 → Ev d mL_law (1663, [some (vR (some (5, n0, a0))), some (vR (some (21, 0, a1))), some (vR (some (22, 0, a2))), some (vR (some (2, n3, a3))), some (vI x4), some (vI x5), some (vI x6)], [], h) r) (kf : x5 = 0 → Ev d mL_law (1651, [some (vR (some (5, n0, a0))), some (vR (some (21, 0, a1))), some (vR (some (22, 0, a2))), some (vR (some (2, n3, a3))), some (vI x4), some (vI x5), some (vI x6)], [], h) r) : Ev d mL_law (1646, [some (vR (some (5, n0, a0))), some (vR (some (21, 0, a1))), some (vR (some (22, 0, a2))), some (vR (some (2, n3, a3))), some (vI x4), some (vI x5), some (vI x6)], [], h) r :=
  s_iload rfl rfl rfl <|
  s_if_ne 1663 rfl rfl kt kf
theorem b5_L_law_1651 {d : Nat} {r : PO × PM} {h : PM} {n0 a0 a1 a2 n3 a3 : Nat} {x4 x5 x6 : Int} (hi1 : 0 < n3) (kt : p_lcmp (h.1 a3 0) (p_i2l x6) = 0 → Ev d mL_law (1663, [some (vR (some (5, n0, a0))), some (vR (some (21, 0, a1))), some (vR (some (22, 0, a2))), some (vR (some (2, n3, a3))), some (vI x4), some (vI x5), some (vI x6)], [], h) r) (kf : p_lcmp (h.1 a3 0) (p_i2l x6) ≠ 0 → Ev d mL_law (1661, [some (vR (some (5, n0, a0))), some (vR (some (21, 0, a1))), some (vR (some (22, 0, a2))), some (vR (some (2, n3, a3))), some (vI x4), some (vI x5), some (vI x6)], [], h) r) : Ev d mL_law (1651, [some (vR (some (5, n0, a0))), some (vR (some (21, 0, a1))), some (vR (some (22, 0, a2))), some (vR (some (2, n3, a3))), some (vI x4), some (vI x5), some (vI x6)], [], h) r :=
  s_aload_n rfl rfl rfl <|
  s_iconst rfl rfl <|
  s_lald rfl rfl (p_lit (k := 0) hi1) <|
  s_iload rfl rfl rfl <|
  s_i2l rfl <|
  s_lcmp rfl <|
  s_if_eq 1663 rfl rfl kt kf
theorem b5_L_law_1661 {d : Nat} {h : PM} {n0 a0 a1 a2 n3 a3 : Nat} {x4 x5 x6 : Int} : Ev d mL_law (1661, [some (vR (some (5, n0, a0))), some (vR (some (21, 0, a1))), some (vR (some (22, 0, a2))), some (vR (some (2, n3, a3))), some (vI x4), some (vI x5), some (vI x6)], [], h) (.inl (some (vI 0)), h) :=
  s_iconst rfl rfl <|
  s_ret rfl rfl
theorem b5_L_law_1663 {d : Nat} {r : PO × PM} {h : PM} {n0 a0 a1 a2 n3 a3 : Nat} {x4 x5 x6 : Int} (k : Ev d mL_law (2427, [some (vR (some (5, n0, a0))), some (vR (some (21, 0, a1))), some (vR (some (22, 0, a2))), some (vR (some (2, n3, a3))), some (vI x4), none, none], [], h) r) : Ev d mL_law (1663, [some (vR (some (5, n0, a0))), some (vR (some (21, 0, a1))), some (vR (some (22, 0, a2))), some (vR (some (2, n3, a3))), some (vI x4), some (vI x5), some (vI x6)], [], h) r :=
  s_goto 2427 rfl rfl (ev_forget [false, false, false, false, false, true, true] rfl k)
theorem b5_L_law_1666 {d : Nat} {r : PO × PM} {h : PM} {n0 a0 a1 a2 n3 a3 : Nat} {x4 z : Int} {h1 : PM} (ho1 : -2147483648 ≤ x4 + 1 ∧ x4 + 1 ≤ 2147483647) (hi2 : 0 ≤ x4 + 1 ∧ x4 + 1 < (n0 : Nat)) (ho3 : -2147483648 ≤ x4 + 2 ∧ x4 + 2 ≤ 2147483647) (hi4 : 0 ≤ x4 + 2 ∧ x4 + 2 < (n0 : Nat)) (c : Ca d mL_swap [vR (some (21, 0, a1)), vI (h.1 a0 (x4 + 1).toNat), vI (h.1 a0 (x4 + 2).toNat), vR (some (2, n3, a3))] h (.inl (some (vI z))) h1) (k : Ev (d + 1) mL_law (1683, [some (vR (some (5, n0, a0))), some (vR (some (21, 0, a1))), some (vR (some (22, 0, a2))), some (vR (some (2, n3, a3))), some (vI x4), none, none], [vI z], h1) r) : Ev (d + 1) mL_law (1666, [some (vR (some (5, n0, a0))), some (vR (some (21, 0, a1))), some (vR (some (22, 0, a2))), some (vR (some (2, n3, a3))), some (vI x4), none, none], [], h) r :=
  s_aload_n rfl rfl rfl <|
  s_aload_n rfl rfl rfl <|
  s_iload rfl rfl rfl <|
  s_iconst rfl rfl <|
  s_iaddp rfl ho1 <|
  s_iald rfl rfl hi2 <|
  s_aload_n rfl rfl rfl <|
  s_iload rfl rfl rfl <|
  s_iconst rfl rfl <|
  s_iaddp rfl ho3 <|
  s_iald rfl rfl hi4 <|
  s_aload_n rfl rfl rfl <|
  s_csI rfl rfl rfl rfl rfl rfl c k
theorem b5_L_law_1683 {d : Nat} {r : PO × PM} {h : PM} {n0 a0 a1 a2 n3 a3 : Nat} {x4 xs0 z : Int} {h1 : PM} (ho1 : -2147483648 ≤ x4 + 1 ∧ x4 + 1 ≤ 2147483647) (hi2 : 0 ≤ x4 + 1 ∧ x4 + 1 < (n0 : Nat)) (ho3 : -2147483648 ≤ x4 + 2 ∧ x4 + 2 ≤ 2147483647) (hi4 : 0 ≤ x4 + 2 ∧ x4 + 2 < (n0 : Nat)) (c : Ca d mX12_swap [vR (some (22, 0, a2)), vI (h.1 a0 (x4 + 1).toNat), vI (h.1 a0 (x4 + 2).toNat)] h (.inl (some (vI z))) h1) (k : Ev (d + 1) mL_law (1701, [some (vR (some (5, n0, a0))), some (vR (some (21, 0, a1))), some (vR (some (22, 0, a2))), some (vR (some (2, n3, a3))), some (vI x4), some (vI xs0), none], [vI z], h1) r) : Ev (d + 1) mL_law (1683, [some (vR (some (5, n0, a0))), some (vR (some (21, 0, a1))), some (vR (some (22, 0, a2))), some (vR (some (2, n3, a3))), some (vI x4), none, none], [vI xs0], h) r :=
  s_istore [some (vR (some (5, n0, a0))), some (vR (some (21, 0, a1))), some (vR (some (22, 0, a2))), some (vR (some (2, n3, a3))), some (vI x4), some (vI xs0), none] rfl rfl <|
  s_aload_n rfl rfl rfl <|
  s_aload_n rfl rfl rfl <|
  s_iload rfl rfl rfl <|
  s_iconst rfl rfl <|
  s_iaddp rfl ho1 <|
  s_iald rfl rfl hi2 <|
  s_aload_n rfl rfl rfl <|
  s_iload rfl rfl rfl <|
  s_iconst rfl rfl <|
  s_iaddp rfl ho3 <|
  s_iald rfl rfl hi4 <|
  s_cvI rfl rfl rfl rfl rfl c k
theorem b5_L_law_1701 {d : Nat} {r : PO × PM} {h : PM} {n0 a0 a1 a2 n3 a3 : Nat} {x4 x5 xs0 z : Int} {h1 : PM} (c : Ca d mX12_thrown [vR (some (22, 0, a2))] h (.inl (some (vI z))) h1) (k : Ev (d + 1) mL_law (1707, [some (vR (some (5, n0, a0))), some (vR (some (21, 0, a1))), some (vR (some (22, 0, a2))), some (vR (some (2, n3, a3))), some (vI x4), some (vI x5), some (vI xs0)], [vI z], h1) r) : Ev (d + 1) mL_law (1701, [some (vR (some (5, n0, a0))), some (vR (some (21, 0, a1))), some (vR (some (22, 0, a2))), some (vR (some (2, n3, a3))), some (vI x4), some (vI x5), none], [vI xs0], h) r :=
  s_istore [some (vR (some (5, n0, a0))), some (vR (some (21, 0, a1))), some (vR (some (22, 0, a2))), some (vR (some (2, n3, a3))), some (vI x4), some (vI x5), some (vI xs0)] rfl rfl <|
  s_aload_n rfl rfl rfl <|
  s_cvI rfl rfl rfl rfl rfl c k
theorem b5_L_law_1707 {d : Nat} {r : PO × PM} {h : PM} {n0 a0 a1 a2 n3 a3 : Nat} {x4 x5 x6 xs0 : Int} (kt : xs0 = x5 → Ev d mL_law (1714, [some (vR (some (5, n0, a0))), some (vR (some (21, 0, a1))), some (vR (some (22, 0, a2))), some (vR (some (2, n3, a3))), some (vI x4), some (vI x5), some (vI x6)], [], h) r) (kf : xs0 ≠ x5 → Ev d mL_law (1712, [some (vR (some (5, n0, a0))), some (vR (some (21, 0, a1))), some (vR (some (22, 0, a2))), some (vR (some (2, n3, a3))), some (vI x4), some (vI x5), some (vI x6)], [], h) r) : Ev d mL_law (1707, [some (vR (some (5, n0, a0))), some (vR (some (21, 0, a1))), some (vR (some (22, 0, a2))), some (vR (some (2, n3, a3))), some (vI x4), some (vI x5), some (vI x6)], [vI xs0], h) r :=
  s_iload rfl rfl rfl <|
  s_icmp_eq 1714 rfl rfl kt kf
theorem b5_L_law_1712 {d : Nat} {h : PM} {n0 a0 a1 a2 n3 a3 : Nat} {x4 x5 x6 : Int} : Ev d mL_law (1712, [some (vR (some (5, n0, a0))), some (vR (some (21, 0, a1))), some (vR (some (22, 0, a2))), some (vR (some (2, n3, a3))), some (vI x4), some (vI x5), some (vI x6)], [], h) (.inl (some (vI 0)), h) :=
  s_iconst rfl rfl <|
  s_ret rfl rfl
theorem b5_L_law_1714 {d : Nat} {r : PO × PM} {h : PM} {n0 a0 a1 a2 n3 a3 : Nat} {x4 x5 x6 : Int} (kt : x5 ≠ 0 → Ev d mL_law (1731, [some (vR (some (5, n0, a0))), some (vR (some (21, 0, a1))), some (vR (some (22, 0, a2))), some (vR (some (2, n3, a3))), some (vI x4), some (vI x5), some (vI x6)], [], h) r) (kf : x5 = 0 → Ev d mL_law (1719, [some (vR (some (5, n0, a0))), some (vR (some (21, 0, a1))), some (vR (some (22, 0, a2))), some (vR (some (2, n3, a3))), some (vI x4), some (vI x5), some (vI x6)], [], h) r) : Ev d mL_law (1714, [some (vR (some (5, n0, a0))), some (vR (some (21, 0, a1))), some (vR (some (22, 0, a2))), some (vR (some (2, n3, a3))), some (vI x4), some (vI x5), some (vI x6)], [], h) r :=
  s_iload rfl rfl rfl <|
  s_if_ne 1731 rfl rfl kt kf
theorem b5_L_law_1719 {d : Nat} {r : PO × PM} {h : PM} {n0 a0 a1 a2 n3 a3 : Nat} {x4 x5 x6 : Int} (hi1 : 0 < n3) (kt : p_lcmp (h.1 a3 0) (p_i2l x6) = 0 → Ev d mL_law (1731, [some (vR (some (5, n0, a0))), some (vR (some (21, 0, a1))), some (vR (some (22, 0, a2))), some (vR (some (2, n3, a3))), some (vI x4), some (vI x5), some (vI x6)], [], h) r) (kf : p_lcmp (h.1 a3 0) (p_i2l x6) ≠ 0 → Ev d mL_law (1729, [some (vR (some (5, n0, a0))), some (vR (some (21, 0, a1))), some (vR (some (22, 0, a2))), some (vR (some (2, n3, a3))), some (vI x4), some (vI x5), some (vI x6)], [], h) r) : Ev d mL_law (1719, [some (vR (some (5, n0, a0))), some (vR (some (21, 0, a1))), some (vR (some (22, 0, a2))), some (vR (some (2, n3, a3))), some (vI x4), some (vI x5), some (vI x6)], [], h) r :=
  s_aload_n rfl rfl rfl <|
  s_iconst rfl rfl <|
  s_lald rfl rfl (p_lit (k := 0) hi1) <|
  s_iload rfl rfl rfl <|
  s_i2l rfl <|
  s_lcmp rfl <|
  s_if_eq 1731 rfl rfl kt kf
theorem b5_L_law_1729 {d : Nat} {h : PM} {n0 a0 a1 a2 n3 a3 : Nat} {x4 x5 x6 : Int} : Ev d mL_law (1729, [some (vR (some (5, n0, a0))), some (vR (some (21, 0, a1))), some (vR (some (22, 0, a2))), some (vR (some (2, n3, a3))), some (vI x4), some (vI x5), some (vI x6)], [], h) (.inl (some (vI 0)), h) :=
  s_iconst rfl rfl <|
  s_ret rfl rfl
theorem b5_L_law_1731 {d : Nat} {r : PO × PM} {h : PM} {n0 a0 a1 a2 n3 a3 : Nat} {x4 x5 x6 : Int} (k : Ev d mL_law (2427, [some (vR (some (5, n0, a0))), some (vR (some (21, 0, a1))), some (vR (some (22, 0, a2))), some (vR (some (2, n3, a3))), some (vI x4), none, none], [], h) r) : Ev d mL_law (1731, [some (vR (some (5, n0, a0))), some (vR (some (21, 0, a1))), some (vR (some (22, 0, a2))), some (vR (some (2, n3, a3))), some (vI x4), some (vI x5), some (vI x6)], [], h) r :=
  s_goto 2427 rfl rfl (ev_forget [false, false, false, false, false, true, true] rfl k)
theorem b5_L_law_1734 {d : Nat} {r : PO × PM} {h : PM} {n0 a0 a1 a2 n3 a3 : Nat} {x4 z : Int} {h1 : PM} (ho1 : -2147483648 ≤ x4 + 1 ∧ x4 + 1 ≤ 2147483647) (hi2 : 0 ≤ x4 + 1 ∧ x4 + 1 < (n0 : Nat)) (ho3 : -2147483648 ≤ x4 + 2 ∧ x4 + 2 ≤ 2147483647) (hi4 : 0 ≤ x4 + 2 ∧ x4 + 2 < (n0 : Nat)) (c : Ca d mL_tune [vR (some (21, 0, a1)), vI (h.1 a0 (x4 + 1).toNat), vI (h.1 a0 (x4 + 2).toNat), vR (some (2, n3, a3))] h (.inl (some (vI z))) h1) (k : Ev (d + 1) mL_law (1751, [some (vR (some (5, n0, a0))), some (vR (some (21, 0, a1))), some (vR (some (22, 0, a2))), some (vR (some (2, n3, a3))), some (vI x4), none, none], [vI z], h1) r) : Ev (d + 1) mL_law (1734, [some (vR (some (5, n0, a0))), some (vR (some (21, 0, a1))), some (vR (some (22, 0, a2))), some (vR (some (2, n3, a3))), some (vI x4), none, none], [], h) r :=
  s_aload_n rfl rfl rfl <|
  s_aload_n rfl rfl rfl <|
  s_iload rfl rfl rfl <|
  s_iconst rfl rfl <|
  s_iaddp rfl ho1 <|
  s_iald rfl rfl hi2 <|
  s_aload_n rfl rfl rfl <|
  s_iload rfl rfl rfl <|
  s_iconst rfl rfl <|
  s_iaddp rfl ho3 <|
  s_iald rfl rfl hi4 <|
  s_aload_n rfl rfl rfl <|
  s_csI rfl rfl rfl rfl rfl rfl c k
theorem b5_L_law_1751 {d : Nat} {r : PO × PM} {h : PM} {n0 a0 a1 a2 n3 a3 : Nat} {x4 xs0 z : Int} {h1 : PM} (ho1 : -2147483648 ≤ x4 + 1 ∧ x4 + 1 ≤ 2147483647) (hi2 : 0 ≤ x4 + 1 ∧ x4 + 1 < (n0 : Nat)) (ho3 : -2147483648 ≤ x4 + 2 ∧ x4 + 2 ≤ 2147483647) (hi4 : 0 ≤ x4 + 2 ∧ x4 + 2 < (n0 : Nat)) (c : Ca d mX12_tune [vR (some (22, 0, a2)), vI (h.1 a0 (x4 + 1).toNat), vI (h.1 a0 (x4 + 2).toNat)] h (.inl (some (vI z))) h1) (k : Ev (d + 1) mL_law (1769, [some (vR (some (5, n0, a0))), some (vR (some (21, 0, a1))), some (vR (some (22, 0, a2))), some (vR (some (2, n3, a3))), some (vI x4), some (vI xs0), none], [vI z], h1) r) : Ev (d + 1) mL_law (1751, [some (vR (some (5, n0, a0))), some (vR (some (21, 0, a1))), some (vR (some (22, 0, a2))), some (vR (some (2, n3, a3))), some (vI x4), none, none], [vI xs0], h) r :=
  s_istore [some (vR (some (5, n0, a0))), some (vR (some (21, 0, a1))), some (vR (some (22, 0, a2))), some (vR (some (2, n3, a3))), some (vI x4), some (vI xs0), none] rfl rfl <|
  s_aload_n rfl rfl rfl <|
  s_aload_n rfl rfl rfl <|
  s_iload rfl rfl rfl <|
  s_iconst rfl rfl <|
  s_iaddp rfl ho1 <|
  s_iald rfl rfl hi2 <|
  s_aload_n rfl rfl rfl <|
  s_iload rfl rfl rfl <|
  s_iconst rfl rfl <|
  s_iaddp rfl ho3 <|
  s_iald rfl rfl hi4 <|
  s_cvI rfl rfl rfl rfl rfl c k
theorem b5_L_law_1769 {d : Nat} {r : PO × PM} {h : PM} {n0 a0 a1 a2 n3 a3 : Nat} {x4 x5 xs0 z : Int} {h1 : PM} (c : Ca d mX12_thrown [vR (some (22, 0, a2))] h (.inl (some (vI z))) h1) (k : Ev (d + 1) mL_law (1775, [some (vR (some (5, n0, a0))), some (vR (some (21, 0, a1))), some (vR (some (22, 0, a2))), some (vR (some (2, n3, a3))), some (vI x4), some (vI x5), some (vI xs0)], [vI z], h1) r) : Ev (d + 1) mL_law (1769, [some (vR (some (5, n0, a0))), some (vR (some (21, 0, a1))), some (vR (some (22, 0, a2))), some (vR (some (2, n3, a3))), some (vI x4), some (vI x5), none], [vI xs0], h) r :=
  s_istore [some (vR (some (5, n0, a0))), some (vR (some (21, 0, a1))), some (vR (some (22, 0, a2))), some (vR (some (2, n3, a3))), some (vI x4), some (vI x5), some (vI xs0)] rfl rfl <|
  s_aload_n rfl rfl rfl <|
  s_cvI rfl rfl rfl rfl rfl c k
theorem b5_L_law_1775 {d : Nat} {r : PO × PM} {h : PM} {n0 a0 a1 a2 n3 a3 : Nat} {x4 x5 x6 xs0 : Int} (kt : xs0 = x5 → Ev d mL_law (1782, [some (vR (some (5, n0, a0))), some (vR (some (21, 0, a1))), some (vR (some (22, 0, a2))), some (vR (some (2, n3, a3))), some (vI x4), some (vI x5), some (vI x6)], [], h) r) (kf : xs0 ≠ x5 → Ev d mL_law (1780, [some (vR (some (5, n0, a0))), some (vR (some (21, 0, a1))), some (vR (some (22, 0, a2))), some (vR (some (2, n3, a3))), some (vI x4), some (vI x5), some (vI x6)], [], h) r) : Ev d mL_law (1775, [some (vR (some (5, n0, a0))), some (vR (some (21, 0, a1))), some (vR (some (22, 0, a2))), some (vR (some (2, n3, a3))), some (vI x4), some (vI x5), some (vI x6)], [vI xs0], h) r :=
  s_iload rfl rfl rfl <|
  s_icmp_eq 1782 rfl rfl kt kf
theorem b5_L_law_1780 {d : Nat} {h : PM} {n0 a0 a1 a2 n3 a3 : Nat} {x4 x5 x6 : Int} : Ev d mL_law (1780, [some (vR (some (5, n0, a0))), some (vR (some (21, 0, a1))), some (vR (some (22, 0, a2))), some (vR (some (2, n3, a3))), some (vI x4), some (vI x5), some (vI x6)], [], h) (.inl (some (vI 0)), h) :=
  s_iconst rfl rfl <|
  s_ret rfl rfl
theorem b5_L_law_1782 {d : Nat} {r : PO × PM} {h : PM} {n0 a0 a1 a2 n3 a3 : Nat} {x4 x5 x6 : Int} (kt : x5 ≠ 0 → Ev d mL_law (1799, [some (vR (some (5, n0, a0))), some (vR (some (21, 0, a1))), some (vR (some (22, 0, a2))), some (vR (some (2, n3, a3))), some (vI x4), some (vI x5), some (vI x6)], [], h) r) (kf : x5 = 0 → Ev d mL_law (1787, [some (vR (some (5, n0, a0))), some (vR (some (21, 0, a1))), some (vR (some (22, 0, a2))), some (vR (some (2, n3, a3))), some (vI x4), some (vI x5), some (vI x6)], [], h) r) : Ev d mL_law (1782, [some (vR (some (5, n0, a0))), some (vR (some (21, 0, a1))), some (vR (some (22, 0, a2))), some (vR (some (2, n3, a3))), some (vI x4), some (vI x5), some (vI x6)], [], h) r :=
  s_iload rfl rfl rfl <|
  s_if_ne 1799 rfl rfl kt kf
theorem b5_L_law_1787 {d : Nat} {r : PO × PM} {h : PM} {n0 a0 a1 a2 n3 a3 : Nat} {x4 x5 x6 : Int} (hi1 : 0 < n3) (kt : p_lcmp (h.1 a3 0) (p_i2l x6) = 0 → Ev d mL_law (1799, [some (vR (some (5, n0, a0))), some (vR (some (21, 0, a1))), some (vR (some (22, 0, a2))), some (vR (some (2, n3, a3))), some (vI x4), some (vI x5), some (vI x6)], [], h) r) (kf : p_lcmp (h.1 a3 0) (p_i2l x6) ≠ 0 → Ev d mL_law (1797, [some (vR (some (5, n0, a0))), some (vR (some (21, 0, a1))), some (vR (some (22, 0, a2))), some (vR (some (2, n3, a3))), some (vI x4), some (vI x5), some (vI x6)], [], h) r) : Ev d mL_law (1787, [some (vR (some (5, n0, a0))), some (vR (some (21, 0, a1))), some (vR (some (22, 0, a2))), some (vR (some (2, n3, a3))), some (vI x4), some (vI x5), some (vI x6)], [], h) r :=
  s_aload_n rfl rfl rfl <|
  s_iconst rfl rfl <|
  s_lald rfl rfl (p_lit (k := 0) hi1) <|
  s_iload rfl rfl rfl <|
  s_i2l rfl <|
  s_lcmp rfl <|
  s_if_eq 1799 rfl rfl kt kf
theorem b5_L_law_1797 {d : Nat} {h : PM} {n0 a0 a1 a2 n3 a3 : Nat} {x4 x5 x6 : Int} : Ev d mL_law (1797, [some (vR (some (5, n0, a0))), some (vR (some (21, 0, a1))), some (vR (some (22, 0, a2))), some (vR (some (2, n3, a3))), some (vI x4), some (vI x5), some (vI x6)], [], h) (.inl (some (vI 0)), h) :=
  s_iconst rfl rfl <|
  s_ret rfl rfl
theorem b5_L_law_1799 {d : Nat} {r : PO × PM} {h : PM} {n0 a0 a1 a2 n3 a3 : Nat} {x4 x5 x6 : Int} (k : Ev d mL_law (2427, [some (vR (some (5, n0, a0))), some (vR (some (21, 0, a1))), some (vR (some (22, 0, a2))), some (vR (some (2, n3, a3))), some (vI x4), none, none], [], h) r) : Ev d mL_law (1799, [some (vR (some (5, n0, a0))), some (vR (some (21, 0, a1))), some (vR (some (22, 0, a2))), some (vR (some (2, n3, a3))), some (vI x4), some (vI x5), some (vI x6)], [], h) r :=
  s_goto 2427 rfl rfl (ev_forget [false, false, false, false, false, true, true] rfl k)
theorem b5_L_law_1802 {d : Nat} {r : PO × PM} {h : PM} {n0 a0 a1 a2 n3 a3 : Nat} {x4 z : Int} {h1 : PM} (c : Ca d mX11_undo [vR (some (21, 0, a1))] h (.inl (some (vI z))) h1) (k : Ev (d + 1) mL_law (1806, [some (vR (some (5, n0, a0))), some (vR (some (21, 0, a1))), some (vR (some (22, 0, a2))), some (vR (some (2, n3, a3))), some (vI x4), none, none], [vI z], h1) r) : Ev (d + 1) mL_law (1802, [some (vR (some (5, n0, a0))), some (vR (some (21, 0, a1))), some (vR (some (22, 0, a2))), some (vR (some (2, n3, a3))), some (vI x4), none, none], [], h) r :=
  s_aload_n rfl rfl rfl <|
  s_cvI rfl rfl rfl rfl rfl c k
theorem b5_L_law_1806 {d : Nat} {r : PO × PM} {h : PM} {n0 a0 a1 a2 n3 a3 : Nat} {x4 xs0 z : Int} {h1 : PM} (c : Ca d mX12_undo [vR (some (22, 0, a2))] h (.inl (some (vI z))) h1) (k : Ev (d + 1) mL_law (1810, [some (vR (some (5, n0, a0))), some (vR (some (21, 0, a1))), some (vR (some (22, 0, a2))), some (vR (some (2, n3, a3))), some (vI x4), none, none], [vI z, vI xs0], h1) r) : Ev (d + 1) mL_law (1806, [some (vR (some (5, n0, a0))), some (vR (some (21, 0, a1))), some (vR (some (22, 0, a2))), some (vR (some (2, n3, a3))), some (vI x4), none, none], [vI xs0], h) r :=
  s_aload_n rfl rfl rfl <|
  s_cvI rfl rfl rfl rfl rfl c k
theorem b5_L_law_1810 {d : Nat} {r : PO × PM} {h : PM} {n0 a0 a1 a2 n3 a3 : Nat} {x4 xs0 xs1 : Int} (kt : xs0 = xs1 → Ev d mL_law (2427, [some (vR (some (5, n0, a0))), some (vR (some (21, 0, a1))), some (vR (some (22, 0, a2))), some (vR (some (2, n3, a3))), some (vI x4), none, none], [], h) r) (kf : xs0 ≠ xs1 → Ev d mL_law (1813, [some (vR (some (5, n0, a0))), some (vR (some (21, 0, a1))), some (vR (some (22, 0, a2))), some (vR (some (2, n3, a3))), some (vI x4), none, none], [], h) r) : Ev d mL_law (1810, [some (vR (some (5, n0, a0))), some (vR (some (21, 0, a1))), some (vR (some (22, 0, a2))), some (vR (some (2, n3, a3))), some (vI x4), none, none], [vI xs1, vI xs0], h) r :=
  s_icmp_eq 2427 rfl rfl kt kf
theorem b5_L_law_1813 {d : Nat} {h : PM} {n0 a0 a1 a2 n3 a3 : Nat} {x4 : Int} : Ev d mL_law (1813, [some (vR (some (5, n0, a0))), some (vR (some (21, 0, a1))), some (vR (some (22, 0, a2))), some (vR (some (2, n3, a3))), some (vI x4), none, none], [], h) (.inl (some (vI 0)), h) :=
  s_iconst rfl rfl <|
  s_ret rfl rfl
theorem b5_L_law_1815 {d : Nat} {r : PO × PM} {h : PM} {n0 a0 a1 a2 n3 a3 : Nat} {x4 z : Int} {h1 : PM} (ho1 : -2147483648 ≤ x4 + 1 ∧ x4 + 1 ≤ 2147483647) (hi2 : 0 ≤ x4 + 1 ∧ x4 + 1 < (n0 : Nat)) (ho3 : -2147483648 ≤ x4 + 2 ∧ x4 + 2 ≤ 2147483647) (hi4 : 0 ≤ x4 + 2 ∧ x4 + 2 < (n0 : Nat)) (c : Ca d mL_chain [vR (some (21, 0, a1)), vI (h.1 a0 (x4 + 1).toNat), vI (h.1 a0 (x4 + 2).toNat), vR (some (2, n3, a3))] h (.inl (some (vI z))) h1) (k : Ev (d + 1) mL_law (1832, [some (vR (some (5, n0, a0))), some (vR (some (21, 0, a1))), some (vR (some (22, 0, a2))), some (vR (some (2, n3, a3))), some (vI x4), none, none], [vI z], h1) r) : Ev (d + 1) mL_law (1815, [some (vR (some (5, n0, a0))), some (vR (some (21, 0, a1))), some (vR (some (22, 0, a2))), some (vR (some (2, n3, a3))), some (vI x4), none, none], [], h) r :=
  s_aload_n rfl rfl rfl <|
  s_aload_n rfl rfl rfl <|
  s_iload rfl rfl rfl <|
  s_iconst rfl rfl <|
  s_iaddp rfl ho1 <|
  s_iald rfl rfl hi2 <|
  s_aload_n rfl rfl rfl <|
  s_iload rfl rfl rfl <|
  s_iconst rfl rfl <|
  s_iaddp rfl ho3 <|
  s_iald rfl rfl hi4 <|
  s_aload_n rfl rfl rfl <|
  s_csI rfl rfl rfl rfl rfl rfl c k
theorem b5_L_law_1832 {d : Nat} {r : PO × PM} {h : PM} {n0 a0 a1 a2 n3 a3 : Nat} {x4 xs0 z : Int} {h1 : PM} (ho1 : -2147483648 ≤ x4 + 1 ∧ x4 + 1 ≤ 2147483647) (hi2 : 0 ≤ x4 + 1 ∧ x4 + 1 < (n0 : Nat)) (ho3 : -2147483648 ≤ x4 + 2 ∧ x4 + 2 ≤ 2147483647) (hi4 : 0 ≤ x4 + 2 ∧ x4 + 2 < (n0 : Nat)) (c : Ca d mX12_chain [vR (some (22, 0, a2)), vI (h.1 a0 (x4 + 1).toNat), vI (h.1 a0 (x4 + 2).toNat)] h (.inl (some (vI z))) h1) (k : Ev (d + 1) mL_law (1850, [some (vR (some (5, n0, a0))), some (vR (some (21, 0, a1))), some (vR (some (22, 0, a2))), some (vR (some (2, n3, a3))), some (vI x4), some (vI xs0), none], [vI z], h1) r) : Ev (d + 1) mL_law (1832, [some (vR (some (5, n0, a0))), some (vR (some (21, 0, a1))), some (vR (some (22, 0, a2))), some (vR (some (2, n3, a3))), some (vI x4), none, none], [vI xs0], h) r :=
  s_istore [some (vR (some (5, n0, a0))), some (vR (some (21, 0, a1))), some (vR (some (22, 0, a2))), some (vR (some (2, n3, a3))), some (vI x4), some (vI xs0), none] rfl rfl <|
  s_aload_n rfl rfl rfl <|
  s_aload_n rfl rfl rfl <|
  s_iload rfl rfl rfl <|
  s_iconst rfl rfl <|
  s_iaddp rfl ho1 <|
  s_iald rfl rfl hi2 <|
  s_aload_n rfl rfl rfl <|
  s_iload rfl rfl rfl <|
  s_iconst rfl rfl <|
  s_iaddp rfl ho3 <|
  s_iald rfl rfl hi4 <|
  s_cvI rfl rfl rfl rfl rfl c k
theorem b5_L_law_1850 {d : Nat} {r : PO × PM} {h : PM} {n0 a0 a1 a2 n3 a3 : Nat} {x4 x5 xs0 z : Int} {h1 : PM} (c : Ca d mX12_thrown [vR (some (22, 0, a2))] h (.inl (some (vI z))) h1) (k : Ev (d + 1) mL_law (1856, [some (vR (some (5, n0, a0))), some (vR (some (21, 0, a1))), some (vR (some (22, 0, a2))), some (vR (some (2, n3, a3))), some (vI x4), some (vI x5), some (vI xs0)], [vI z], h1) r) : Ev (d + 1) mL_law (1850, [some (vR (some (5, n0, a0))), some (vR (some (21, 0, a1))), some (vR (some (22, 0, a2))), some (vR (some (2, n3, a3))), some (vI x4), some (vI x5), none], [vI xs0], h) r :=
  s_istore [some (vR (some (5, n0, a0))), some (vR (some (21, 0, a1))), some (vR (some (22, 0, a2))), some (vR (some (2, n3, a3))), some (vI x4), some (vI x5), some (vI xs0)] rfl rfl <|
  s_aload_n rfl rfl rfl <|
  s_cvI rfl rfl rfl rfl rfl c k
theorem b5_L_law_1856 {d : Nat} {r : PO × PM} {h : PM} {n0 a0 a1 a2 n3 a3 : Nat} {x4 x5 x6 xs0 : Int} (kt : xs0 = x5 → Ev d mL_law (1863, [some (vR (some (5, n0, a0))), some (vR (some (21, 0, a1))), some (vR (some (22, 0, a2))), some (vR (some (2, n3, a3))), some (vI x4), some (vI x5), some (vI x6)], [], h) r) (kf : xs0 ≠ x5 → Ev d mL_law (1861, [some (vR (some (5, n0, a0))), some (vR (some (21, 0, a1))), some (vR (some (22, 0, a2))), some (vR (some (2, n3, a3))), some (vI x4), some (vI x5), some (vI x6)], [], h) r) : Ev d mL_law (1856, [some (vR (some (5, n0, a0))), some (vR (some (21, 0, a1))), some (vR (some (22, 0, a2))), some (vR (some (2, n3, a3))), some (vI x4), some (vI x5), some (vI x6)], [vI xs0], h) r :=
  s_iload rfl rfl rfl <|
  s_icmp_eq 1863 rfl rfl kt kf
theorem b5_L_law_1861 {d : Nat} {h : PM} {n0 a0 a1 a2 n3 a3 : Nat} {x4 x5 x6 : Int} : Ev d mL_law (1861, [some (vR (some (5, n0, a0))), some (vR (some (21, 0, a1))), some (vR (some (22, 0, a2))), some (vR (some (2, n3, a3))), some (vI x4), some (vI x5), some (vI x6)], [], h) (.inl (some (vI 0)), h) :=
  s_iconst rfl rfl <|
  s_ret rfl rfl
theorem b5_L_law_1863 {d : Nat} {r : PO × PM} {h : PM} {n0 a0 a1 a2 n3 a3 : Nat} {x4 x5 x6 : Int} (kt : x5 ≠ 0 → Ev d mL_law (1880, [some (vR (some (5, n0, a0))), some (vR (some (21, 0, a1))), some (vR (some (22, 0, a2))), some (vR (some (2, n3, a3))), some (vI x4), some (vI x5), some (vI x6)], [], h) r) (kf : x5 = 0 → Ev d mL_law (1868, [some (vR (some (5, n0, a0))), some (vR (some (21, 0, a1))), some (vR (some (22, 0, a2))), some (vR (some (2, n3, a3))), some (vI x4), some (vI x5), some (vI x6)], [], h) r) : Ev d mL_law (1863, [some (vR (some (5, n0, a0))), some (vR (some (21, 0, a1))), some (vR (some (22, 0, a2))), some (vR (some (2, n3, a3))), some (vI x4), some (vI x5), some (vI x6)], [], h) r :=
  s_iload rfl rfl rfl <|
  s_if_ne 1880 rfl rfl kt kf
theorem b5_L_law_1868 {d : Nat} {r : PO × PM} {h : PM} {n0 a0 a1 a2 n3 a3 : Nat} {x4 x5 x6 : Int} (hi1 : 0 < n3) (kt : p_lcmp (h.1 a3 0) (p_i2l x6) = 0 → Ev d mL_law (1880, [some (vR (some (5, n0, a0))), some (vR (some (21, 0, a1))), some (vR (some (22, 0, a2))), some (vR (some (2, n3, a3))), some (vI x4), some (vI x5), some (vI x6)], [], h) r) (kf : p_lcmp (h.1 a3 0) (p_i2l x6) ≠ 0 → Ev d mL_law (1878, [some (vR (some (5, n0, a0))), some (vR (some (21, 0, a1))), some (vR (some (22, 0, a2))), some (vR (some (2, n3, a3))), some (vI x4), some (vI x5), some (vI x6)], [], h) r) : Ev d mL_law (1868, [some (vR (some (5, n0, a0))), some (vR (some (21, 0, a1))), some (vR (some (22, 0, a2))), some (vR (some (2, n3, a3))), some (vI x4), some (vI x5), some (vI x6)], [], h) r :=
  s_aload_n rfl rfl rfl <|
  s_iconst rfl rfl <|
  s_lald rfl rfl (p_lit (k := 0) hi1) <|
  s_iload rfl rfl rfl <|
  s_i2l rfl <|
  s_lcmp rfl <|
  s_if_eq 1880 rfl rfl kt kf
theorem b5_L_law_1878 {d : Nat} {h : PM} {n0 a0 a1 a2 n3 a3 : Nat} {x4 x5 x6 : Int} : Ev d mL_law (1878, [some (vR (some (5, n0, a0))), some (vR (some (21, 0, a1))), some (vR (some (22, 0, a2))), some (vR (some (2, n3, a3))), some (vI x4), some (vI x5), some (vI x6)], [], h) (.inl (some (vI 0)), h) :=
  s_iconst rfl rfl <|
  s_ret rfl rfl
theorem b5_L_law_1880 {d : Nat} {r : PO × PM} {h : PM} {n0 a0 a1 a2 n3 a3 : Nat} {x4 x5 x6 : Int} (k : Ev d mL_law (2427, [some (vR (some (5, n0, a0))), some (vR (some (21, 0, a1))), some (vR (some (22, 0, a2))), some (vR (some (2, n3, a3))), some (vI x4), none, none], [], h) r) : Ev d mL_law (1880, [some (vR (some (5, n0, a0))), some (vR (some (21, 0, a1))), some (vR (some (22, 0, a2))), some (vR (some (2, n3, a3))), some (vI x4), some (vI x5), some (vI x6)], [], h) r :=
  s_goto 2427 rfl rfl (ev_forget [false, false, false, false, false, true, true] rfl k)
theorem b5_L_law_1883 {d : Nat} {r : PO × PM} {h : PM} {n0 a0 a1 a2 n3 a3 : Nat} {x4 z : Int} {h1 : PM} (ho1 : -2147483648 ≤ x4 + 1 ∧ x4 + 1 ≤ 2147483647) (hi2 : 0 ≤ x4 + 1 ∧ x4 + 1 < (n0 : Nat)) (c : Ca d mL_solve [vR (some (21, 0, a1)), vI (h.1 a0 (x4 + 1).toNat), vR (some (2, n3, a3))] h (.inl (some (vI z))) h1) (k : Ev (d + 1) mL_law (1894, [some (vR (some (5, n0, a0))), some (vR (some (21, 0, a1))), some (vR (some (22, 0, a2))), some (vR (some (2, n3, a3))), some (vI x4), none, none], [vI z], h1) r) : Ev (d + 1) mL_law (1883, [some (vR (some (5, n0, a0))), some (vR (some (21, 0, a1))), some (vR (some (22, 0, a2))), some (vR (some (2, n3, a3))), some (vI x4), none, none], [], h) r :=
  s_aload_n rfl rfl rfl <|
  s_aload_n rfl rfl rfl <|
  s_iload rfl rfl rfl <|
  s_iconst rfl rfl <|
  s_iaddp rfl ho1 <|
  s_iald rfl rfl hi2 <|
  s_aload_n rfl rfl rfl <|
  s_csI rfl rfl rfl rfl rfl rfl c k
theorem b5_L_law_1894 {d : Nat} {r : PO × PM} {h : PM} {n0 a0 a1 a2 n3 a3 : Nat} {x4 xs0 z : Int} {h1 : PM} (ho1 : -2147483648 ≤ x4 + 1 ∧ x4 + 1 ≤ 2147483647) (hi2 : 0 ≤ x4 + 1 ∧ x4 + 1 < (n0 : Nat)) (c : Ca d mX12_solve [vR (some (22, 0, a2)), vI (h.1 a0 (x4 + 1).toNat)] h (.inl (some (vI z))) h1) (k : Ev (d + 1) mL_law (1906, [some (vR (some (5, n0, a0))), some (vR (some (21, 0, a1))), some (vR (some (22, 0, a2))), some (vR (some (2, n3, a3))), some (vI x4), some (vI xs0), none], [vI z], h1) r) : Ev (d + 1) mL_law (1894, [some (vR (some (5, n0, a0))), some (vR (some (21, 0, a1))), some (vR (some (22, 0, a2))), some (vR (some (2, n3, a3))), some (vI x4), none, none], [vI xs0], h) r :=
  s_istore [some (vR (some (5, n0, a0))), some (vR (some (21, 0, a1))), some (vR (some (22, 0, a2))), some (vR (some (2, n3, a3))), some (vI x4), some (vI xs0), none] rfl rfl <|
  s_aload_n rfl rfl rfl <|
  s_aload_n rfl rfl rfl <|
  s_iload rfl rfl rfl <|
  s_iconst rfl rfl <|
  s_iaddp rfl ho1 <|
  s_iald rfl rfl hi2 <|
  s_cvI rfl rfl rfl rfl rfl c k
theorem b5_L_law_1906 {d : Nat} {r : PO × PM} {h : PM} {n0 a0 a1 a2 n3 a3 : Nat} {x4 x5 xs0 z : Int} {h1 : PM} (c : Ca d mX12_thrown [vR (some (22, 0, a2))] h (.inl (some (vI z))) h1) (k : Ev (d + 1) mL_law (1912, [some (vR (some (5, n0, a0))), some (vR (some (21, 0, a1))), some (vR (some (22, 0, a2))), some (vR (some (2, n3, a3))), some (vI x4), some (vI x5), some (vI xs0)], [vI z], h1) r) : Ev (d + 1) mL_law (1906, [some (vR (some (5, n0, a0))), some (vR (some (21, 0, a1))), some (vR (some (22, 0, a2))), some (vR (some (2, n3, a3))), some (vI x4), some (vI x5), none], [vI xs0], h) r :=
  s_istore [some (vR (some (5, n0, a0))), some (vR (some (21, 0, a1))), some (vR (some (22, 0, a2))), some (vR (some (2, n3, a3))), some (vI x4), some (vI x5), some (vI xs0)] rfl rfl <|
  s_aload_n rfl rfl rfl <|
  s_cvI rfl rfl rfl rfl rfl c k
theorem b5_L_law_1912 {d : Nat} {r : PO × PM} {h : PM} {n0 a0 a1 a2 n3 a3 : Nat} {x4 x5 x6 xs0 : Int} (kt : xs0 = x5 → Ev d mL_law (1919, [some (vR (some (5, n0, a0))), some (vR (some (21, 0, a1))), some (vR (some (22, 0, a2))), some (vR (some (2, n3, a3))), some (vI x4), some (vI x5), some (vI x6)], [], h) r) (kf : xs0 ≠ x5 → Ev d mL_law (1917, [some (vR (some (5, n0, a0))), some (vR (some (21, 0, a1))), some (vR (some (22, 0, a2))), some (vR (some (2, n3, a3))), some (vI x4), some (vI x5), some (vI x6)], [], h) r) : Ev d mL_law (1912, [some (vR (some (5, n0, a0))), some (vR (some (21, 0, a1))), some (vR (some (22, 0, a2))), some (vR (some (2, n3, a3))), some (vI x4), some (vI x5), some (vI x6)], [vI xs0], h) r :=
  s_iload rfl rfl rfl <|
  s_icmp_eq 1919 rfl rfl kt kf
theorem b5_L_law_1917 {d : Nat} {h : PM} {n0 a0 a1 a2 n3 a3 : Nat} {x4 x5 x6 : Int} : Ev d mL_law (1917, [some (vR (some (5, n0, a0))), some (vR (some (21, 0, a1))), some (vR (some (22, 0, a2))), some (vR (some (2, n3, a3))), some (vI x4), some (vI x5), some (vI x6)], [], h) (.inl (some (vI 0)), h) :=
  s_iconst rfl rfl <|
  s_ret rfl rfl
theorem b5_L_law_1919 {d : Nat} {r : PO × PM} {h : PM} {n0 a0 a1 a2 n3 a3 : Nat} {x4 x5 x6 : Int} (kt : x5 ≠ 0 → Ev d mL_law (1936, [some (vR (some (5, n0, a0))), some (vR (some (21, 0, a1))), some (vR (some (22, 0, a2))), some (vR (some (2, n3, a3))), some (vI x4), some (vI x5), some (vI x6)], [], h) r) (kf : x5 = 0 → Ev d mL_law (1924, [some (vR (some (5, n0, a0))), some (vR (some (21, 0, a1))), some (vR (some (22, 0, a2))), some (vR (some (2, n3, a3))), some (vI x4), some (vI x5), some (vI x6)], [], h) r) : Ev d mL_law (1919, [some (vR (some (5, n0, a0))), some (vR (some (21, 0, a1))), some (vR (some (22, 0, a2))), some (vR (some (2, n3, a3))), some (vI x4), some (vI x5), some (vI x6)], [], h) r :=
  s_iload rfl rfl rfl <|
  s_if_ne 1936 rfl rfl kt kf
theorem b5_L_law_1924 {d : Nat} {r : PO × PM} {h : PM} {n0 a0 a1 a2 n3 a3 : Nat} {x4 x5 x6 : Int} (hi1 : 0 < n3) (kt : p_lcmp (h.1 a3 0) (p_i2l x6) = 0 → Ev d mL_law (1936, [some (vR (some (5, n0, a0))), some (vR (some (21, 0, a1))), some (vR (some (22, 0, a2))), some (vR (some (2, n3, a3))), some (vI x4), some (vI x5), some (vI x6)], [], h) r) (kf : p_lcmp (h.1 a3 0) (p_i2l x6) ≠ 0 → Ev d mL_law (1934, [some (vR (some (5, n0, a0))), some (vR (some (21, 0, a1))), some (vR (some (22, 0, a2))), some (vR (some (2, n3, a3))), some (vI x4), some (vI x5), some (vI x6)], [], h) r) : Ev d mL_law (1924, [some (vR (some (5, n0, a0))), some (vR (some (21, 0, a1))), some (vR (some (22, 0, a2))), some (vR (some (2, n3, a3))), some (vI x4), some (vI x5), some (vI x6)], [], h) r :=
  s_aload_n rfl rfl rfl <|
  s_iconst rfl rfl <|
  s_lald rfl rfl (p_lit (k := 0) hi1) <|
  s_iload rfl rfl rfl <|
  s_i2l rfl <|
  s_lcmp rfl <|
  s_if_eq 1936 rfl rfl kt kf
theorem b5_L_law_1934 {d : Nat} {h : PM} {n0 a0 a1 a2 n3 a3 : Nat} {x4 x5 x6 : Int} : Ev d mL_law (1934, [some (vR (some (5, n0, a0))), some (vR (some (21, 0, a1))), some (vR (some (22, 0, a2))), some (vR (some (2, n3, a3))), some (vI x4), some (vI x5), some (vI x6)], [], h) (.inl (some (vI 0)), h) :=
  s_iconst rfl rfl <|
  s_ret rfl rfl
theorem b5_L_law_1936 {d : Nat} {r : PO × PM} {h : PM} {n0 a0 a1 a2 n3 a3 : Nat} {x4 x5 x6 : Int} (k : Ev d mL_law (2427, [some (vR (some (5, n0, a0))), some (vR (some (21, 0, a1))), some (vR (some (22, 0, a2))), some (vR (some (2, n3, a3))), some (vI x4), none, none], [], h) r) : Ev d mL_law (1936, [some (vR (some (5, n0, a0))), some (vR (some (21, 0, a1))), some (vR (some (22, 0, a2))), some (vR (some (2, n3, a3))), some (vI x4), some (vI x5), some (vI x6)], [], h) r :=
  s_goto 2427 rfl rfl (ev_forget [false, false, false, false, false, true, true] rfl k)
theorem b5_L_law_1939 {d : Nat} {r : PO × PM} {h : PM} {n0 a0 a1 a2 n3 a3 : Nat} {x4 z : Int} {h1 : PM} (c : Ca d mX11_ways [vR (some (21, 0, a1))] h (.inl (some (vI z))) h1) (k : Ev (d + 1) mL_law (1943, [some (vR (some (5, n0, a0))), some (vR (some (21, 0, a1))), some (vR (some (22, 0, a2))), some (vR (some (2, n3, a3))), some (vI x4), none, none], [vI z], h1) r) : Ev (d + 1) mL_law (1939, [some (vR (some (5, n0, a0))), some (vR (some (21, 0, a1))), some (vR (some (22, 0, a2))), some (vR (some (2, n3, a3))), some (vI x4), none, none], [], h) r :=
  s_aload_n rfl rfl rfl <|
  s_cvI rfl rfl rfl rfl rfl c k
theorem b5_L_law_1943 {d : Nat} {r : PO × PM} {h : PM} {n0 a0 a1 a2 n3 a3 : Nat} {x4 xs0 z : Int} {h1 : PM} (c : Ca d mX12_ways [vR (some (22, 0, a2))] h (.inl (some (vI z))) h1) (k : Ev (d + 1) mL_law (1947, [some (vR (some (5, n0, a0))), some (vR (some (21, 0, a1))), some (vR (some (22, 0, a2))), some (vR (some (2, n3, a3))), some (vI x4), none, none], [vI z, vI xs0], h1) r) : Ev (d + 1) mL_law (1943, [some (vR (some (5, n0, a0))), some (vR (some (21, 0, a1))), some (vR (some (22, 0, a2))), some (vR (some (2, n3, a3))), some (vI x4), none, none], [vI xs0], h) r :=
  s_aload_n rfl rfl rfl <|
  s_cvI rfl rfl rfl rfl rfl c k
theorem b5_L_law_1947 {d : Nat} {r : PO × PM} {h : PM} {n0 a0 a1 a2 n3 a3 : Nat} {x4 xs0 xs1 : Int} (kt : xs0 = xs1 → Ev d mL_law (2427, [some (vR (some (5, n0, a0))), some (vR (some (21, 0, a1))), some (vR (some (22, 0, a2))), some (vR (some (2, n3, a3))), some (vI x4), none, none], [], h) r) (kf : xs0 ≠ xs1 → Ev d mL_law (1950, [some (vR (some (5, n0, a0))), some (vR (some (21, 0, a1))), some (vR (some (22, 0, a2))), some (vR (some (2, n3, a3))), some (vI x4), none, none], [], h) r) : Ev d mL_law (1947, [some (vR (some (5, n0, a0))), some (vR (some (21, 0, a1))), some (vR (some (22, 0, a2))), some (vR (some (2, n3, a3))), some (vI x4), none, none], [vI xs1, vI xs0], h) r :=
  s_icmp_eq 2427 rfl rfl kt kf
theorem b5_L_law_1950 {d : Nat} {h : PM} {n0 a0 a1 a2 n3 a3 : Nat} {x4 : Int} : Ev d mL_law (1950, [some (vR (some (5, n0, a0))), some (vR (some (21, 0, a1))), some (vR (some (22, 0, a2))), some (vR (some (2, n3, a3))), some (vI x4), none, none], [], h) (.inl (some (vI 0)), h) :=
  s_iconst rfl rfl <|
  s_ret rfl rfl
theorem b5_L_law_1952 {d : Nat} {r : PO × PM} {h : PM} {n0 a0 a1 a2 n3 a3 : Nat} {x4 z : Int} {h1 : PM} (ho1 : -2147483648 ≤ x4 + 1 ∧ x4 + 1 ≤ 2147483647) (hi2 : 0 ≤ x4 + 1 ∧ x4 + 1 < (n0 : Nat)) (ho3 : -2147483648 ≤ x4 + 2 ∧ x4 + 2 ≤ 2147483647) (hi4 : 0 ≤ x4 + 2 ∧ x4 + 2 < (n0 : Nat)) (c : Ca d mL_free [vR (some (21, 0, a1)), vI (h.1 a0 (x4 + 1).toNat), vI (h.1 a0 (x4 + 2).toNat), vR (some (2, n3, a3))] h (.inl (some (vI z))) h1) (k : Ev (d + 1) mL_law (1969, [some (vR (some (5, n0, a0))), some (vR (some (21, 0, a1))), some (vR (some (22, 0, a2))), some (vR (some (2, n3, a3))), some (vI x4), none, none], [vI z], h1) r) : Ev (d + 1) mL_law (1952, [some (vR (some (5, n0, a0))), some (vR (some (21, 0, a1))), some (vR (some (22, 0, a2))), some (vR (some (2, n3, a3))), some (vI x4), none, none], [], h) r :=
  s_aload_n rfl rfl rfl <|
  s_aload_n rfl rfl rfl <|
  s_iload rfl rfl rfl <|
  s_iconst rfl rfl <|
  s_iaddp rfl ho1 <|
  s_iald rfl rfl hi2 <|
  s_aload_n rfl rfl rfl <|
  s_iload rfl rfl rfl <|
  s_iconst rfl rfl <|
  s_iaddp rfl ho3 <|
  s_iald rfl rfl hi4 <|
  s_aload_n rfl rfl rfl <|
  s_csI rfl rfl rfl rfl rfl rfl c k
theorem b5_L_law_1969 {d : Nat} {r : PO × PM} {h : PM} {n0 a0 a1 a2 n3 a3 : Nat} {x4 xs0 z : Int} {h1 : PM} (ho1 : -2147483648 ≤ x4 + 1 ∧ x4 + 1 ≤ 2147483647) (hi2 : 0 ≤ x4 + 1 ∧ x4 + 1 < (n0 : Nat)) (ho3 : -2147483648 ≤ x4 + 2 ∧ x4 + 2 ≤ 2147483647) (hi4 : 0 ≤ x4 + 2 ∧ x4 + 2 < (n0 : Nat)) (c : Ca d mX12_free [vR (some (22, 0, a2)), vI (h.1 a0 (x4 + 1).toNat), vI (h.1 a0 (x4 + 2).toNat)] h (.inl (some (vI z))) h1) (k : Ev (d + 1) mL_law (1987, [some (vR (some (5, n0, a0))), some (vR (some (21, 0, a1))), some (vR (some (22, 0, a2))), some (vR (some (2, n3, a3))), some (vI x4), some (vI xs0), none], [vI z], h1) r) : Ev (d + 1) mL_law (1969, [some (vR (some (5, n0, a0))), some (vR (some (21, 0, a1))), some (vR (some (22, 0, a2))), some (vR (some (2, n3, a3))), some (vI x4), none, none], [vI xs0], h) r :=
  s_istore [some (vR (some (5, n0, a0))), some (vR (some (21, 0, a1))), some (vR (some (22, 0, a2))), some (vR (some (2, n3, a3))), some (vI x4), some (vI xs0), none] rfl rfl <|
  s_aload_n rfl rfl rfl <|
  s_aload_n rfl rfl rfl <|
  s_iload rfl rfl rfl <|
  s_iconst rfl rfl <|
  s_iaddp rfl ho1 <|
  s_iald rfl rfl hi2 <|
  s_aload_n rfl rfl rfl <|
  s_iload rfl rfl rfl <|
  s_iconst rfl rfl <|
  s_iaddp rfl ho3 <|
  s_iald rfl rfl hi4 <|
  s_cvI rfl rfl rfl rfl rfl c k
theorem b5_L_law_1987 {d : Nat} {r : PO × PM} {h : PM} {n0 a0 a1 a2 n3 a3 : Nat} {x4 x5 xs0 z : Int} {h1 : PM} (c : Ca d mX12_thrown [vR (some (22, 0, a2))] h (.inl (some (vI z))) h1) (k : Ev (d + 1) mL_law (1993, [some (vR (some (5, n0, a0))), some (vR (some (21, 0, a1))), some (vR (some (22, 0, a2))), some (vR (some (2, n3, a3))), some (vI x4), some (vI x5), some (vI xs0)], [vI z], h1) r) : Ev (d + 1) mL_law (1987, [some (vR (some (5, n0, a0))), some (vR (some (21, 0, a1))), some (vR (some (22, 0, a2))), some (vR (some (2, n3, a3))), some (vI x4), some (vI x5), none], [vI xs0], h) r :=
  s_istore [some (vR (some (5, n0, a0))), some (vR (some (21, 0, a1))), some (vR (some (22, 0, a2))), some (vR (some (2, n3, a3))), some (vI x4), some (vI x5), some (vI xs0)] rfl rfl <|
  s_aload_n rfl rfl rfl <|
  s_cvI rfl rfl rfl rfl rfl c k
theorem b5_L_law_1993 {d : Nat} {r : PO × PM} {h : PM} {n0 a0 a1 a2 n3 a3 : Nat} {x4 x5 x6 xs0 : Int} (kt : xs0 = x5 → Ev d mL_law (2000, [some (vR (some (5, n0, a0))), some (vR (some (21, 0, a1))), some (vR (some (22, 0, a2))), some (vR (some (2, n3, a3))), some (vI x4), some (vI x5), some (vI x6)], [], h) r) (kf : xs0 ≠ x5 → Ev d mL_law (1998, [some (vR (some (5, n0, a0))), some (vR (some (21, 0, a1))), some (vR (some (22, 0, a2))), some (vR (some (2, n3, a3))), some (vI x4), some (vI x5), some (vI x6)], [], h) r) : Ev d mL_law (1993, [some (vR (some (5, n0, a0))), some (vR (some (21, 0, a1))), some (vR (some (22, 0, a2))), some (vR (some (2, n3, a3))), some (vI x4), some (vI x5), some (vI x6)], [vI xs0], h) r :=
  s_iload rfl rfl rfl <|
  s_icmp_eq 2000 rfl rfl kt kf
theorem b5_L_law_1998 {d : Nat} {h : PM} {n0 a0 a1 a2 n3 a3 : Nat} {x4 x5 x6 : Int} : Ev d mL_law (1998, [some (vR (some (5, n0, a0))), some (vR (some (21, 0, a1))), some (vR (some (22, 0, a2))), some (vR (some (2, n3, a3))), some (vI x4), some (vI x5), some (vI x6)], [], h) (.inl (some (vI 0)), h) :=
  s_iconst rfl rfl <|
  s_ret rfl rfl
theorem b5_L_law_2000 {d : Nat} {r : PO × PM} {h : PM} {n0 a0 a1 a2 n3 a3 : Nat} {x4 x5 x6 : Int} (kt : x5 ≠ 0 → Ev d mL_law (2017, [some (vR (some (5, n0, a0))), some (vR (some (21, 0, a1))), some (vR (some (22, 0, a2))), some (vR (some (2, n3, a3))), some (vI x4), some (vI x5), some (vI x6)], [], h) r) (kf : x5 = 0 → Ev d mL_law (2005, [some (vR (some (5, n0, a0))), some (vR (some (21, 0, a1))), some (vR (some (22, 0, a2))), some (vR (some (2, n3, a3))), some (vI x4), some (vI x5), some (vI x6)], [], h) r) : Ev d mL_law (2000, [some (vR (some (5, n0, a0))), some (vR (some (21, 0, a1))), some (vR (some (22, 0, a2))), some (vR (some (2, n3, a3))), some (vI x4), some (vI x5), some (vI x6)], [], h) r :=
  s_iload rfl rfl rfl <|
  s_if_ne 2017 rfl rfl kt kf
theorem b5_L_law_2005 {d : Nat} {r : PO × PM} {h : PM} {n0 a0 a1 a2 n3 a3 : Nat} {x4 x5 x6 : Int} (hi1 : 0 < n3) (kt : p_lcmp (h.1 a3 0) (p_i2l x6) = 0 → Ev d mL_law (2017, [some (vR (some (5, n0, a0))), some (vR (some (21, 0, a1))), some (vR (some (22, 0, a2))), some (vR (some (2, n3, a3))), some (vI x4), some (vI x5), some (vI x6)], [], h) r) (kf : p_lcmp (h.1 a3 0) (p_i2l x6) ≠ 0 → Ev d mL_law (2015, [some (vR (some (5, n0, a0))), some (vR (some (21, 0, a1))), some (vR (some (22, 0, a2))), some (vR (some (2, n3, a3))), some (vI x4), some (vI x5), some (vI x6)], [], h) r) : Ev d mL_law (2005, [some (vR (some (5, n0, a0))), some (vR (some (21, 0, a1))), some (vR (some (22, 0, a2))), some (vR (some (2, n3, a3))), some (vI x4), some (vI x5), some (vI x6)], [], h) r :=
  s_aload_n rfl rfl rfl <|
  s_iconst rfl rfl <|
  s_lald rfl rfl (p_lit (k := 0) hi1) <|
  s_iload rfl rfl rfl <|
  s_i2l rfl <|
  s_lcmp rfl <|
  s_if_eq 2017 rfl rfl kt kf
theorem b5_L_law_2015 {d : Nat} {h : PM} {n0 a0 a1 a2 n3 a3 : Nat} {x4 x5 x6 : Int} : Ev d mL_law (2015, [some (vR (some (5, n0, a0))), some (vR (some (21, 0, a1))), some (vR (some (22, 0, a2))), some (vR (some (2, n3, a3))), some (vI x4), some (vI x5), some (vI x6)], [], h) (.inl (some (vI 0)), h) :=
  s_iconst rfl rfl <|
  s_ret rfl rfl
theorem b5_L_law_2017 {d : Nat} {r : PO × PM} {h : PM} {n0 a0 a1 a2 n3 a3 : Nat} {x4 x5 x6 : Int} (k : Ev d mL_law (2427, [some (vR (some (5, n0, a0))), some (vR (some (21, 0, a1))), some (vR (some (22, 0, a2))), some (vR (some (2, n3, a3))), some (vI x4), none, none], [], h) r) : Ev d mL_law (2017, [some (vR (some (5, n0, a0))), some (vR (some (21, 0, a1))), some (vR (some (22, 0, a2))), some (vR (some (2, n3, a3))), some (vI x4), some (vI x5), some (vI x6)], [], h) r :=
  s_goto 2427 rfl rfl (ev_forget [false, false, false, false, false, true, true] rfl k)
theorem b5_L_law_2020 {d : Nat} {r : PO × PM} {h : PM} {n0 a0 a1 a2 n3 a3 : Nat} {x4 z : Int} {h1 : PM} (ho1 : -2147483648 ≤ x4 + 1 ∧ x4 + 1 ≤ 2147483647) (hi2 : 0 ≤ x4 + 1 ∧ x4 + 1 < (n0 : Nat)) (c : Ca d mL_play [vR (some (21, 0, a1)), vI (h.1 a0 (x4 + 1).toNat), vR (some (2, n3, a3))] h (.inl (some (vI z))) h1) (k : Ev (d + 1) mL_law (2031, [some (vR (some (5, n0, a0))), some (vR (some (21, 0, a1))), some (vR (some (22, 0, a2))), some (vR (some (2, n3, a3))), some (vI x4), none, none], [vI z], h1) r) : Ev (d + 1) mL_law (2020, [some (vR (some (5, n0, a0))), some (vR (some (21, 0, a1))), some (vR (some (22, 0, a2))), some (vR (some (2, n3, a3))), some (vI x4), none, none], [], h) r :=
  s_aload_n rfl rfl rfl <|
  s_aload_n rfl rfl rfl <|
  s_iload rfl rfl rfl <|
  s_iconst rfl rfl <|
  s_iaddp rfl ho1 <|
  s_iald rfl rfl hi2 <|
  s_aload_n rfl rfl rfl <|
  s_csI rfl rfl rfl rfl rfl rfl c k
theorem b5_L_law_2031 {d : Nat} {r : PO × PM} {h : PM} {n0 a0 a1 a2 n3 a3 : Nat} {x4 xs0 z : Int} {h1 : PM} (ho1 : -2147483648 ≤ x4 + 1 ∧ x4 + 1 ≤ 2147483647) (hi2 : 0 ≤ x4 + 1 ∧ x4 + 1 < (n0 : Nat)) (c : Ca d mX12_play [vR (some (22, 0, a2)), vI (h.1 a0 (x4 + 1).toNat)] h (.inl (some (vI z))) h1) (k : Ev (d + 1) mL_law (2043, [some (vR (some (5, n0, a0))), some (vR (some (21, 0, a1))), some (vR (some (22, 0, a2))), some (vR (some (2, n3, a3))), some (vI x4), some (vI xs0), none], [vI z], h1) r) : Ev (d + 1) mL_law (2031, [some (vR (some (5, n0, a0))), some (vR (some (21, 0, a1))), some (vR (some (22, 0, a2))), some (vR (some (2, n3, a3))), some (vI x4), none, none], [vI xs0], h) r :=
  s_istore [some (vR (some (5, n0, a0))), some (vR (some (21, 0, a1))), some (vR (some (22, 0, a2))), some (vR (some (2, n3, a3))), some (vI x4), some (vI xs0), none] rfl rfl <|
  s_aload_n rfl rfl rfl <|
  s_aload_n rfl rfl rfl <|
  s_iload rfl rfl rfl <|
  s_iconst rfl rfl <|
  s_iaddp rfl ho1 <|
  s_iald rfl rfl hi2 <|
  s_cvI rfl rfl rfl rfl rfl c k
theorem b5_L_law_2043 {d : Nat} {r : PO × PM} {h : PM} {n0 a0 a1 a2 n3 a3 : Nat} {x4 x5 xs0 z : Int} {h1 : PM} (c : Ca d mX12_thrown [vR (some (22, 0, a2))] h (.inl (some (vI z))) h1) (k : Ev (d + 1) mL_law (2049, [some (vR (some (5, n0, a0))), some (vR (some (21, 0, a1))), some (vR (some (22, 0, a2))), some (vR (some (2, n3, a3))), some (vI x4), some (vI x5), some (vI xs0)], [vI z], h1) r) : Ev (d + 1) mL_law (2043, [some (vR (some (5, n0, a0))), some (vR (some (21, 0, a1))), some (vR (some (22, 0, a2))), some (vR (some (2, n3, a3))), some (vI x4), some (vI x5), none], [vI xs0], h) r :=
  s_istore [some (vR (some (5, n0, a0))), some (vR (some (21, 0, a1))), some (vR (some (22, 0, a2))), some (vR (some (2, n3, a3))), some (vI x4), some (vI x5), some (vI xs0)] rfl rfl <|
  s_aload_n rfl rfl rfl <|
  s_cvI rfl rfl rfl rfl rfl c k
theorem b5_L_law_2049 {d : Nat} {r : PO × PM} {h : PM} {n0 a0 a1 a2 n3 a3 : Nat} {x4 x5 x6 xs0 : Int} (kt : xs0 = x5 → Ev d mL_law (2056, [some (vR (some (5, n0, a0))), some (vR (some (21, 0, a1))), some (vR (some (22, 0, a2))), some (vR (some (2, n3, a3))), some (vI x4), some (vI x5), some (vI x6)], [], h) r) (kf : xs0 ≠ x5 → Ev d mL_law (2054, [some (vR (some (5, n0, a0))), some (vR (some (21, 0, a1))), some (vR (some (22, 0, a2))), some (vR (some (2, n3, a3))), some (vI x4), some (vI x5), some (vI x6)], [], h) r) : Ev d mL_law (2049, [some (vR (some (5, n0, a0))), some (vR (some (21, 0, a1))), some (vR (some (22, 0, a2))), some (vR (some (2, n3, a3))), some (vI x4), some (vI x5), some (vI x6)], [vI xs0], h) r :=
  s_iload rfl rfl rfl <|
  s_icmp_eq 2056 rfl rfl kt kf
theorem b5_L_law_2054 {d : Nat} {h : PM} {n0 a0 a1 a2 n3 a3 : Nat} {x4 x5 x6 : Int} : Ev d mL_law (2054, [some (vR (some (5, n0, a0))), some (vR (some (21, 0, a1))), some (vR (some (22, 0, a2))), some (vR (some (2, n3, a3))), some (vI x4), some (vI x5), some (vI x6)], [], h) (.inl (some (vI 0)), h) :=
  s_iconst rfl rfl <|
  s_ret rfl rfl
theorem b5_L_law_2056 {d : Nat} {r : PO × PM} {h : PM} {n0 a0 a1 a2 n3 a3 : Nat} {x4 x5 x6 : Int} (kt : x5 ≠ 0 → Ev d mL_law (2073, [some (vR (some (5, n0, a0))), some (vR (some (21, 0, a1))), some (vR (some (22, 0, a2))), some (vR (some (2, n3, a3))), some (vI x4), some (vI x5), some (vI x6)], [], h) r) (kf : x5 = 0 → Ev d mL_law (2061, [some (vR (some (5, n0, a0))), some (vR (some (21, 0, a1))), some (vR (some (22, 0, a2))), some (vR (some (2, n3, a3))), some (vI x4), some (vI x5), some (vI x6)], [], h) r) : Ev d mL_law (2056, [some (vR (some (5, n0, a0))), some (vR (some (21, 0, a1))), some (vR (some (22, 0, a2))), some (vR (some (2, n3, a3))), some (vI x4), some (vI x5), some (vI x6)], [], h) r :=
  s_iload rfl rfl rfl <|
  s_if_ne 2073 rfl rfl kt kf
theorem b5_L_law_2061 {d : Nat} {r : PO × PM} {h : PM} {n0 a0 a1 a2 n3 a3 : Nat} {x4 x5 x6 : Int} (hi1 : 0 < n3) (kt : p_lcmp (h.1 a3 0) (p_i2l x6) = 0 → Ev d mL_law (2073, [some (vR (some (5, n0, a0))), some (vR (some (21, 0, a1))), some (vR (some (22, 0, a2))), some (vR (some (2, n3, a3))), some (vI x4), some (vI x5), some (vI x6)], [], h) r) (kf : p_lcmp (h.1 a3 0) (p_i2l x6) ≠ 0 → Ev d mL_law (2071, [some (vR (some (5, n0, a0))), some (vR (some (21, 0, a1))), some (vR (some (22, 0, a2))), some (vR (some (2, n3, a3))), some (vI x4), some (vI x5), some (vI x6)], [], h) r) : Ev d mL_law (2061, [some (vR (some (5, n0, a0))), some (vR (some (21, 0, a1))), some (vR (some (22, 0, a2))), some (vR (some (2, n3, a3))), some (vI x4), some (vI x5), some (vI x6)], [], h) r :=
  s_aload_n rfl rfl rfl <|
  s_iconst rfl rfl <|
  s_lald rfl rfl (p_lit (k := 0) hi1) <|
  s_iload rfl rfl rfl <|
  s_i2l rfl <|
  s_lcmp rfl <|
  s_if_eq 2073 rfl rfl kt kf
theorem b5_L_law_2071 {d : Nat} {h : PM} {n0 a0 a1 a2 n3 a3 : Nat} {x4 x5 x6 : Int} : Ev d mL_law (2071, [some (vR (some (5, n0, a0))), some (vR (some (21, 0, a1))), some (vR (some (22, 0, a2))), some (vR (some (2, n3, a3))), some (vI x4), some (vI x5), some (vI x6)], [], h) (.inl (some (vI 0)), h) :=
  s_iconst rfl rfl <|
  s_ret rfl rfl
theorem b5_L_law_2073 {d : Nat} {r : PO × PM} {h : PM} {n0 a0 a1 a2 n3 a3 : Nat} {x4 x5 x6 : Int} (k : Ev d mL_law (2427, [some (vR (some (5, n0, a0))), some (vR (some (21, 0, a1))), some (vR (some (22, 0, a2))), some (vR (some (2, n3, a3))), some (vI x4), none, none], [], h) r) : Ev d mL_law (2073, [some (vR (some (5, n0, a0))), some (vR (some (21, 0, a1))), some (vR (some (22, 0, a2))), some (vR (some (2, n3, a3))), some (vI x4), some (vI x5), some (vI x6)], [], h) r :=
  s_goto 2427 rfl rfl (ev_forget [false, false, false, false, false, true, true] rfl k)
theorem b5_L_law_2076 {d : Nat} {r : PO × PM} {h : PM} {n0 a0 a1 a2 n3 a3 : Nat} {x4 z : Int} {h1 : PM} (ho1 : -2147483648 ≤ x4 + 1 ∧ x4 + 1 ≤ 2147483647) (hi2 : 0 ≤ x4 + 1 ∧ x4 + 1 < (n0 : Nat)) (c : Ca d mL_plan [vR (some (21, 0, a1)), vI (h.1 a0 (x4 + 1).toNat), vR (some (2, n3, a3))] h (.inl (some (vI z))) h1) (k : Ev (d + 1) mL_law (2087, [some (vR (some (5, n0, a0))), some (vR (some (21, 0, a1))), some (vR (some (22, 0, a2))), some (vR (some (2, n3, a3))), some (vI x4), none, none], [vI z], h1) r) : Ev (d + 1) mL_law (2076, [some (vR (some (5, n0, a0))), some (vR (some (21, 0, a1))), some (vR (some (22, 0, a2))), some (vR (some (2, n3, a3))), some (vI x4), none, none], [], h) r :=
  s_aload_n rfl rfl rfl <|
  s_aload_n rfl rfl rfl <|
  s_iload rfl rfl rfl <|
  s_iconst rfl rfl <|
  s_iaddp rfl ho1 <|
  s_iald rfl rfl hi2 <|
  s_aload_n rfl rfl rfl <|
  s_csI rfl rfl rfl rfl rfl rfl c k
theorem b5_L_law_2087 {d : Nat} {r : PO × PM} {h : PM} {n0 a0 a1 a2 n3 a3 : Nat} {x4 xs0 z : Int} {h1 : PM} (ho1 : -2147483648 ≤ x4 + 1 ∧ x4 + 1 ≤ 2147483647) (hi2 : 0 ≤ x4 + 1 ∧ x4 + 1 < (n0 : Nat)) (c : Ca d mX12_plan [vR (some (22, 0, a2)), vI (h.1 a0 (x4 + 1).toNat)] h (.inl (some (vI z))) h1) (k : Ev (d + 1) mL_law (2099, [some (vR (some (5, n0, a0))), some (vR (some (21, 0, a1))), some (vR (some (22, 0, a2))), some (vR (some (2, n3, a3))), some (vI x4), some (vI xs0), none], [vI z], h1) r) : Ev (d + 1) mL_law (2087, [some (vR (some (5, n0, a0))), some (vR (some (21, 0, a1))), some (vR (some (22, 0, a2))), some (vR (some (2, n3, a3))), some (vI x4), none, none], [vI xs0], h) r :=
  s_istore [some (vR (some (5, n0, a0))), some (vR (some (21, 0, a1))), some (vR (some (22, 0, a2))), some (vR (some (2, n3, a3))), some (vI x4), some (vI xs0), none] rfl rfl <|
  s_aload_n rfl rfl rfl <|
  s_aload_n rfl rfl rfl <|
  s_iload rfl rfl rfl <|
  s_iconst rfl rfl <|
  s_iaddp rfl ho1 <|
  s_iald rfl rfl hi2 <|
  s_cvI rfl rfl rfl rfl rfl c k
theorem b5_L_law_2099 {d : Nat} {r : PO × PM} {h : PM} {n0 a0 a1 a2 n3 a3 : Nat} {x4 x5 xs0 z : Int} {h1 : PM} (c : Ca d mX12_thrown [vR (some (22, 0, a2))] h (.inl (some (vI z))) h1) (k : Ev (d + 1) mL_law (2105, [some (vR (some (5, n0, a0))), some (vR (some (21, 0, a1))), some (vR (some (22, 0, a2))), some (vR (some (2, n3, a3))), some (vI x4), some (vI x5), some (vI xs0)], [vI z], h1) r) : Ev (d + 1) mL_law (2099, [some (vR (some (5, n0, a0))), some (vR (some (21, 0, a1))), some (vR (some (22, 0, a2))), some (vR (some (2, n3, a3))), some (vI x4), some (vI x5), none], [vI xs0], h) r :=
  s_istore [some (vR (some (5, n0, a0))), some (vR (some (21, 0, a1))), some (vR (some (22, 0, a2))), some (vR (some (2, n3, a3))), some (vI x4), some (vI x5), some (vI xs0)] rfl rfl <|
  s_aload_n rfl rfl rfl <|
  s_cvI rfl rfl rfl rfl rfl c k
theorem b5_L_law_2105 {d : Nat} {r : PO × PM} {h : PM} {n0 a0 a1 a2 n3 a3 : Nat} {x4 x5 x6 xs0 : Int} (kt : xs0 = x5 → Ev d mL_law (2112, [some (vR (some (5, n0, a0))), some (vR (some (21, 0, a1))), some (vR (some (22, 0, a2))), some (vR (some (2, n3, a3))), some (vI x4), some (vI x5), some (vI x6)], [], h) r) (kf : xs0 ≠ x5 → Ev d mL_law (2110, [some (vR (some (5, n0, a0))), some (vR (some (21, 0, a1))), some (vR (some (22, 0, a2))), some (vR (some (2, n3, a3))), some (vI x4), some (vI x5), some (vI x6)], [], h) r) : Ev d mL_law (2105, [some (vR (some (5, n0, a0))), some (vR (some (21, 0, a1))), some (vR (some (22, 0, a2))), some (vR (some (2, n3, a3))), some (vI x4), some (vI x5), some (vI x6)], [vI xs0], h) r :=
  s_iload rfl rfl rfl <|
  s_icmp_eq 2112 rfl rfl kt kf
theorem b5_L_law_2110 {d : Nat} {h : PM} {n0 a0 a1 a2 n3 a3 : Nat} {x4 x5 x6 : Int} : Ev d mL_law (2110, [some (vR (some (5, n0, a0))), some (vR (some (21, 0, a1))), some (vR (some (22, 0, a2))), some (vR (some (2, n3, a3))), some (vI x4), some (vI x5), some (vI x6)], [], h) (.inl (some (vI 0)), h) :=
  s_iconst rfl rfl <|
  s_ret rfl rfl
theorem b5_L_law_2112 {d : Nat} {r : PO × PM} {h : PM} {n0 a0 a1 a2 n3 a3 : Nat} {x4 x5 x6 : Int} (kt : x5 ≠ 0 → Ev d mL_law (2129, [some (vR (some (5, n0, a0))), some (vR (some (21, 0, a1))), some (vR (some (22, 0, a2))), some (vR (some (2, n3, a3))), some (vI x4), some (vI x5), some (vI x6)], [], h) r) (kf : x5 = 0 → Ev d mL_law (2117, [some (vR (some (5, n0, a0))), some (vR (some (21, 0, a1))), some (vR (some (22, 0, a2))), some (vR (some (2, n3, a3))), some (vI x4), some (vI x5), some (vI x6)], [], h) r) : Ev d mL_law (2112, [some (vR (some (5, n0, a0))), some (vR (some (21, 0, a1))), some (vR (some (22, 0, a2))), some (vR (some (2, n3, a3))), some (vI x4), some (vI x5), some (vI x6)], [], h) r :=
  s_iload rfl rfl rfl <|
  s_if_ne 2129 rfl rfl kt kf
theorem b5_L_law_2117 {d : Nat} {r : PO × PM} {h : PM} {n0 a0 a1 a2 n3 a3 : Nat} {x4 x5 x6 : Int} (hi1 : 0 < n3) (kt : p_lcmp (h.1 a3 0) (p_i2l x6) = 0 → Ev d mL_law (2129, [some (vR (some (5, n0, a0))), some (vR (some (21, 0, a1))), some (vR (some (22, 0, a2))), some (vR (some (2, n3, a3))), some (vI x4), some (vI x5), some (vI x6)], [], h) r) (kf : p_lcmp (h.1 a3 0) (p_i2l x6) ≠ 0 → Ev d mL_law (2127, [some (vR (some (5, n0, a0))), some (vR (some (21, 0, a1))), some (vR (some (22, 0, a2))), some (vR (some (2, n3, a3))), some (vI x4), some (vI x5), some (vI x6)], [], h) r) : Ev d mL_law (2117, [some (vR (some (5, n0, a0))), some (vR (some (21, 0, a1))), some (vR (some (22, 0, a2))), some (vR (some (2, n3, a3))), some (vI x4), some (vI x5), some (vI x6)], [], h) r :=
  s_aload_n rfl rfl rfl <|
  s_iconst rfl rfl <|
  s_lald rfl rfl (p_lit (k := 0) hi1) <|
  s_iload rfl rfl rfl <|
  s_i2l rfl <|
  s_lcmp rfl <|
  s_if_eq 2129 rfl rfl kt kf
theorem b5_L_law_2127 {d : Nat} {h : PM} {n0 a0 a1 a2 n3 a3 : Nat} {x4 x5 x6 : Int} : Ev d mL_law (2127, [some (vR (some (5, n0, a0))), some (vR (some (21, 0, a1))), some (vR (some (22, 0, a2))), some (vR (some (2, n3, a3))), some (vI x4), some (vI x5), some (vI x6)], [], h) (.inl (some (vI 0)), h) :=
  s_iconst rfl rfl <|
  s_ret rfl rfl
theorem b5_L_law_2129 {d : Nat} {r : PO × PM} {h : PM} {n0 a0 a1 a2 n3 a3 : Nat} {x4 x5 x6 : Int} (k : Ev d mL_law (2427, [some (vR (some (5, n0, a0))), some (vR (some (21, 0, a1))), some (vR (some (22, 0, a2))), some (vR (some (2, n3, a3))), some (vI x4), none, none], [], h) r) : Ev d mL_law (2129, [some (vR (some (5, n0, a0))), some (vR (some (21, 0, a1))), some (vR (some (22, 0, a2))), some (vR (some (2, n3, a3))), some (vI x4), some (vI x5), some (vI x6)], [], h) r :=
  s_goto 2427 rfl rfl (ev_forget [false, false, false, false, false, true, true] rfl k)
theorem b5_L_law_2132 {d : Nat} {r : PO × PM} {h : PM} {n0 a0 a1 a2 n3 a3 : Nat} {x4 z : Int} {h1 : PM} (ho1 : -2147483648 ≤ x4 + 1 ∧ x4 + 1 ≤ 2147483647) (hi2 : 0 ≤ x4 + 1 ∧ x4 + 1 < (n0 : Nat)) (c : Ca d mL_planned [vR (some (21, 0, a1)), vI (h.1 a0 (x4 + 1).toNat), vR (some (2, n3, a3))] h (.inl (some (vI z))) h1) (k : Ev (d + 1) mL_law (2143, [some (vR (some (5, n0, a0))), some (vR (some (21, 0, a1))), some (vR (some (22, 0, a2))), some (vR (some (2, n3, a3))), some (vI x4), none, none], [vI z], h1) r) : Ev (d + 1) mL_law (2132, [some (vR (some (5, n0, a0))), some (vR (some (21, 0, a1))), some (vR (some (22, 0, a2))), some (vR (some (2, n3, a3))), some (vI x4), none, none], [], h) r :=
  s_aload_n rfl rfl rfl <|
  s_aload_n rfl rfl rfl <|
  s_iload rfl rfl rfl <|
  s_iconst rfl rfl <|
  s_iaddp rfl ho1 <|
  s_iald rfl rfl hi2 <|
  s_aload_n rfl rfl rfl <|
  s_csI rfl rfl rfl rfl rfl rfl c k
theorem b5_L_law_2143 {d : Nat} {r : PO × PM} {h : PM} {n0 a0 a1 a2 n3 a3 : Nat} {x4 xs0 z : Int} {h1 : PM} (ho1 : -2147483648 ≤ x4 + 1 ∧ x4 + 1 ≤ 2147483647) (hi2 : 0 ≤ x4 + 1 ∧ x4 + 1 < (n0 : Nat)) (c : Ca d mX12_planned [vR (some (22, 0, a2)), vI (h.1 a0 (x4 + 1).toNat)] h (.inl (some (vI z))) h1) (k : Ev (d + 1) mL_law (2155, [some (vR (some (5, n0, a0))), some (vR (some (21, 0, a1))), some (vR (some (22, 0, a2))), some (vR (some (2, n3, a3))), some (vI x4), some (vI xs0), none], [vI z], h1) r) : Ev (d + 1) mL_law (2143, [some (vR (some (5, n0, a0))), some (vR (some (21, 0, a1))), some (vR (some (22, 0, a2))), some (vR (some (2, n3, a3))), some (vI x4), none, none], [vI xs0], h) r :=
  s_istore [some (vR (some (5, n0, a0))), some (vR (some (21, 0, a1))), some (vR (some (22, 0, a2))), some (vR (some (2, n3, a3))), some (vI x4), some (vI xs0), none] rfl rfl <|
  s_aload_n rfl rfl rfl <|
  s_aload_n rfl rfl rfl <|
  s_iload rfl rfl rfl <|
  s_iconst rfl rfl <|
  s_iaddp rfl ho1 <|
  s_iald rfl rfl hi2 <|
  s_cvI rfl rfl rfl rfl rfl c k
theorem b5_L_law_2155 {d : Nat} {r : PO × PM} {h : PM} {n0 a0 a1 a2 n3 a3 : Nat} {x4 x5 xs0 z : Int} {h1 : PM} (c : Ca d mX12_thrown [vR (some (22, 0, a2))] h (.inl (some (vI z))) h1) (k : Ev (d + 1) mL_law (2161, [some (vR (some (5, n0, a0))), some (vR (some (21, 0, a1))), some (vR (some (22, 0, a2))), some (vR (some (2, n3, a3))), some (vI x4), some (vI x5), some (vI xs0)], [vI z], h1) r) : Ev (d + 1) mL_law (2155, [some (vR (some (5, n0, a0))), some (vR (some (21, 0, a1))), some (vR (some (22, 0, a2))), some (vR (some (2, n3, a3))), some (vI x4), some (vI x5), none], [vI xs0], h) r :=
  s_istore [some (vR (some (5, n0, a0))), some (vR (some (21, 0, a1))), some (vR (some (22, 0, a2))), some (vR (some (2, n3, a3))), some (vI x4), some (vI x5), some (vI xs0)] rfl rfl <|
  s_aload_n rfl rfl rfl <|
  s_cvI rfl rfl rfl rfl rfl c k
theorem b5_L_law_2161 {d : Nat} {r : PO × PM} {h : PM} {n0 a0 a1 a2 n3 a3 : Nat} {x4 x5 x6 xs0 : Int} (kt : xs0 = x5 → Ev d mL_law (2168, [some (vR (some (5, n0, a0))), some (vR (some (21, 0, a1))), some (vR (some (22, 0, a2))), some (vR (some (2, n3, a3))), some (vI x4), some (vI x5), some (vI x6)], [], h) r) (kf : xs0 ≠ x5 → Ev d mL_law (2166, [some (vR (some (5, n0, a0))), some (vR (some (21, 0, a1))), some (vR (some (22, 0, a2))), some (vR (some (2, n3, a3))), some (vI x4), some (vI x5), some (vI x6)], [], h) r) : Ev d mL_law (2161, [some (vR (some (5, n0, a0))), some (vR (some (21, 0, a1))), some (vR (some (22, 0, a2))), some (vR (some (2, n3, a3))), some (vI x4), some (vI x5), some (vI x6)], [vI xs0], h) r :=
  s_iload rfl rfl rfl <|
  s_icmp_eq 2168 rfl rfl kt kf
theorem b5_L_law_2166 {d : Nat} {h : PM} {n0 a0 a1 a2 n3 a3 : Nat} {x4 x5 x6 : Int} : Ev d mL_law (2166, [some (vR (some (5, n0, a0))), some (vR (some (21, 0, a1))), some (vR (some (22, 0, a2))), some (vR (some (2, n3, a3))), some (vI x4), some (vI x5), some (vI x6)], [], h) (.inl (some (vI 0)), h) :=
  s_iconst rfl rfl <|
  s_ret rfl rfl
theorem b5_L_law_2168 {d : Nat} {r : PO × PM} {h : PM} {n0 a0 a1 a2 n3 a3 : Nat} {x4 x5 x6 : Int} (kt : x5 ≠ 0 → Ev d mL_law (2185, [some (vR (some (5, n0, a0))), some (vR (some (21, 0, a1))), some (vR (some (22, 0, a2))), some (vR (some (2, n3, a3))), some (vI x4), some (vI x5), some (vI x6)], [], h) r) (kf : x5 = 0 → Ev d mL_law (2173, [some (vR (some (5, n0, a0))), some (vR (some (21, 0, a1))), some (vR (some (22, 0, a2))), some (vR (some (2, n3, a3))), some (vI x4), some (vI x5), some (vI x6)], [], h) r) : Ev d mL_law (2168, [some (vR (some (5, n0, a0))), some (vR (some (21, 0, a1))), some (vR (some (22, 0, a2))), some (vR (some (2, n3, a3))), some (vI x4), some (vI x5), some (vI x6)], [], h) r :=
  s_iload rfl rfl rfl <|
  s_if_ne 2185 rfl rfl kt kf
theorem b5_L_law_2173 {d : Nat} {r : PO × PM} {h : PM} {n0 a0 a1 a2 n3 a3 : Nat} {x4 x5 x6 : Int} (hi1 : 0 < n3) (kt : p_lcmp (h.1 a3 0) (p_i2l x6) = 0 → Ev d mL_law (2185, [some (vR (some (5, n0, a0))), some (vR (some (21, 0, a1))), some (vR (some (22, 0, a2))), some (vR (some (2, n3, a3))), some (vI x4), some (vI x5), some (vI x6)], [], h) r) (kf : p_lcmp (h.1 a3 0) (p_i2l x6) ≠ 0 → Ev d mL_law (2183, [some (vR (some (5, n0, a0))), some (vR (some (21, 0, a1))), some (vR (some (22, 0, a2))), some (vR (some (2, n3, a3))), some (vI x4), some (vI x5), some (vI x6)], [], h) r) : Ev d mL_law (2173, [some (vR (some (5, n0, a0))), some (vR (some (21, 0, a1))), some (vR (some (22, 0, a2))), some (vR (some (2, n3, a3))), some (vI x4), some (vI x5), some (vI x6)], [], h) r :=
  s_aload_n rfl rfl rfl <|
  s_iconst rfl rfl <|
  s_lald rfl rfl (p_lit (k := 0) hi1) <|
  s_iload rfl rfl rfl <|
  s_i2l rfl <|
  s_lcmp rfl <|
  s_if_eq 2185 rfl rfl kt kf
theorem b5_L_law_2183 {d : Nat} {h : PM} {n0 a0 a1 a2 n3 a3 : Nat} {x4 x5 x6 : Int} : Ev d mL_law (2183, [some (vR (some (5, n0, a0))), some (vR (some (21, 0, a1))), some (vR (some (22, 0, a2))), some (vR (some (2, n3, a3))), some (vI x4), some (vI x5), some (vI x6)], [], h) (.inl (some (vI 0)), h) :=
  s_iconst rfl rfl <|
  s_ret rfl rfl
theorem b5_L_law_2185 {d : Nat} {r : PO × PM} {h : PM} {n0 a0 a1 a2 n3 a3 : Nat} {x4 x5 x6 : Int} (k : Ev d mL_law (2427, [some (vR (some (5, n0, a0))), some (vR (some (21, 0, a1))), some (vR (some (22, 0, a2))), some (vR (some (2, n3, a3))), some (vI x4), none, none], [], h) r) : Ev d mL_law (2185, [some (vR (some (5, n0, a0))), some (vR (some (21, 0, a1))), some (vR (some (22, 0, a2))), some (vR (some (2, n3, a3))), some (vI x4), some (vI x5), some (vI x6)], [], h) r :=
  s_goto 2427 rfl rfl (ev_forget [false, false, false, false, false, true, true] rfl k)
theorem b5_L_law_2188 {d : Nat} {r : PO × PM} {h : PM} {n0 a0 a1 a2 n3 a3 : Nat} {x4 z : Int} {h1 : PM} (ho1 : -2147483648 ≤ x4 + 1 ∧ x4 + 1 ≤ 2147483647) (hi2 : 0 ≤ x4 + 1 ∧ x4 + 1 < (n0 : Nat)) (ho3 : -2147483648 ≤ x4 + 2 ∧ x4 + 2 ≤ 2147483647) (hi4 : 0 ≤ x4 + 2 ∧ x4 + 2 < (n0 : Nat)) (c : Ca d mL_note [vR (some (21, 0, a1)), vI (h.1 a0 (x4 + 1).toNat), vI (h.1 a0 (x4 + 2).toNat), vR (some (2, n3, a3))] h (.inl (some (vI z))) h1) (k : Ev (d + 1) mL_law (2205, [some (vR (some (5, n0, a0))), some (vR (some (21, 0, a1))), some (vR (some (22, 0, a2))), some (vR (some (2, n3, a3))), some (vI x4), none, none], [vI z], h1) r) : Ev (d + 1) mL_law (2188, [some (vR (some (5, n0, a0))), some (vR (some (21, 0, a1))), some (vR (some (22, 0, a2))), some (vR (some (2, n3, a3))), some (vI x4), none, none], [], h) r :=
  s_aload_n rfl rfl rfl <|
  s_aload_n rfl rfl rfl <|
  s_iload rfl rfl rfl <|
  s_iconst rfl rfl <|
  s_iaddp rfl ho1 <|
  s_iald rfl rfl hi2 <|
  s_aload_n rfl rfl rfl <|
  s_iload rfl rfl rfl <|
  s_iconst rfl rfl <|
  s_iaddp rfl ho3 <|
  s_iald rfl rfl hi4 <|
  s_aload_n rfl rfl rfl <|
  s_csI rfl rfl rfl rfl rfl rfl c k
theorem b5_L_law_2205 {d : Nat} {r : PO × PM} {h : PM} {n0 a0 a1 a2 n3 a3 : Nat} {x4 xs0 z : Int} {h1 : PM} (ho1 : -2147483648 ≤ x4 + 1 ∧ x4 + 1 ≤ 2147483647) (hi2 : 0 ≤ x4 + 1 ∧ x4 + 1 < (n0 : Nat)) (ho3 : -2147483648 ≤ x4 + 2 ∧ x4 + 2 ≤ 2147483647) (hi4 : 0 ≤ x4 + 2 ∧ x4 + 2 < (n0 : Nat)) (c : Ca d mX12_note [vR (some (22, 0, a2)), vI (h.1 a0 (x4 + 1).toNat), vI (h.1 a0 (x4 + 2).toNat)] h (.inl (some (vI z))) h1) (k : Ev (d + 1) mL_law (2223, [some (vR (some (5, n0, a0))), some (vR (some (21, 0, a1))), some (vR (some (22, 0, a2))), some (vR (some (2, n3, a3))), some (vI x4), some (vI xs0), none], [vI z], h1) r) : Ev (d + 1) mL_law (2205, [some (vR (some (5, n0, a0))), some (vR (some (21, 0, a1))), some (vR (some (22, 0, a2))), some (vR (some (2, n3, a3))), some (vI x4), none, none], [vI xs0], h) r :=
  s_istore [some (vR (some (5, n0, a0))), some (vR (some (21, 0, a1))), some (vR (some (22, 0, a2))), some (vR (some (2, n3, a3))), some (vI x4), some (vI xs0), none] rfl rfl <|
  s_aload_n rfl rfl rfl <|
  s_aload_n rfl rfl rfl <|
  s_iload rfl rfl rfl <|
  s_iconst rfl rfl <|
  s_iaddp rfl ho1 <|
  s_iald rfl rfl hi2 <|
  s_aload_n rfl rfl rfl <|
  s_iload rfl rfl rfl <|
  s_iconst rfl rfl <|
  s_iaddp rfl ho3 <|
  s_iald rfl rfl hi4 <|
  s_cvI rfl rfl rfl rfl rfl c k
theorem b5_L_law_2223 {d : Nat} {r : PO × PM} {h : PM} {n0 a0 a1 a2 n3 a3 : Nat} {x4 x5 xs0 z : Int} {h1 : PM} (c : Ca d mX12_thrown [vR (some (22, 0, a2))] h (.inl (some (vI z))) h1) (k : Ev (d + 1) mL_law (2229, [some (vR (some (5, n0, a0))), some (vR (some (21, 0, a1))), some (vR (some (22, 0, a2))), some (vR (some (2, n3, a3))), some (vI x4), some (vI x5), some (vI xs0)], [vI z], h1) r) : Ev (d + 1) mL_law (2223, [some (vR (some (5, n0, a0))), some (vR (some (21, 0, a1))), some (vR (some (22, 0, a2))), some (vR (some (2, n3, a3))), some (vI x4), some (vI x5), none], [vI xs0], h) r :=
  s_istore [some (vR (some (5, n0, a0))), some (vR (some (21, 0, a1))), some (vR (some (22, 0, a2))), some (vR (some (2, n3, a3))), some (vI x4), some (vI x5), some (vI xs0)] rfl rfl <|
  s_aload_n rfl rfl rfl <|
  s_cvI rfl rfl rfl rfl rfl c k
theorem b5_L_law_2229 {d : Nat} {r : PO × PM} {h : PM} {n0 a0 a1 a2 n3 a3 : Nat} {x4 x5 x6 xs0 : Int} (kt : xs0 = x5 → Ev d mL_law (2236, [some (vR (some (5, n0, a0))), some (vR (some (21, 0, a1))), some (vR (some (22, 0, a2))), some (vR (some (2, n3, a3))), some (vI x4), some (vI x5), some (vI x6)], [], h) r) (kf : xs0 ≠ x5 → Ev d mL_law (2234, [some (vR (some (5, n0, a0))), some (vR (some (21, 0, a1))), some (vR (some (22, 0, a2))), some (vR (some (2, n3, a3))), some (vI x4), some (vI x5), some (vI x6)], [], h) r) : Ev d mL_law (2229, [some (vR (some (5, n0, a0))), some (vR (some (21, 0, a1))), some (vR (some (22, 0, a2))), some (vR (some (2, n3, a3))), some (vI x4), some (vI x5), some (vI x6)], [vI xs0], h) r :=
  s_iload rfl rfl rfl <|
  s_icmp_eq 2236 rfl rfl kt kf
theorem b5_L_law_2234 {d : Nat} {h : PM} {n0 a0 a1 a2 n3 a3 : Nat} {x4 x5 x6 : Int} : Ev d mL_law (2234, [some (vR (some (5, n0, a0))), some (vR (some (21, 0, a1))), some (vR (some (22, 0, a2))), some (vR (some (2, n3, a3))), some (vI x4), some (vI x5), some (vI x6)], [], h) (.inl (some (vI 0)), h) :=
  s_iconst rfl rfl <|
  s_ret rfl rfl
theorem b5_L_law_2236 {d : Nat} {r : PO × PM} {h : PM} {n0 a0 a1 a2 n3 a3 : Nat} {x4 x5 x6 : Int} (kt : x5 ≠ 0 → Ev d mL_law (2253, [some (vR (some (5, n0, a0))), some (vR (some (21, 0, a1))), some (vR (some (22, 0, a2))), some (vR (some (2, n3, a3))), some (vI x4), some (vI x5), some (vI x6)], [], h) r) (kf : x5 = 0 → Ev d mL_law (2241, [some (vR (some (5, n0, a0))), some (vR (some (21, 0, a1))), some (vR (some (22, 0, a2))), some (vR (some (2, n3, a3))), some (vI x4), some (vI x5), some (vI x6)], [], h) r) : Ev d mL_law (2236, [some (vR (some (5, n0, a0))), some (vR (some (21, 0, a1))), some (vR (some (22, 0, a2))), some (vR (some (2, n3, a3))), some (vI x4), some (vI x5), some (vI x6)], [], h) r :=
  s_iload rfl rfl rfl <|
  s_if_ne 2253 rfl rfl kt kf
theorem b5_L_law_2241 {d : Nat} {r : PO × PM} {h : PM} {n0 a0 a1 a2 n3 a3 : Nat} {x4 x5 x6 : Int} (hi1 : 0 < n3) (kt : p_lcmp (h.1 a3 0) (p_i2l x6) = 0 → Ev d mL_law (2253, [some (vR (some (5, n0, a0))), some (vR (some (21, 0, a1))), some (vR (some (22, 0, a2))), some (vR (some (2, n3, a3))), some (vI x4), some (vI x5), some (vI x6)], [], h) r) (kf : p_lcmp (h.1 a3 0) (p_i2l x6) ≠ 0 → Ev d mL_law (2251, [some (vR (some (5, n0, a0))), some (vR (some (21, 0, a1))), some (vR (some (22, 0, a2))), some (vR (some (2, n3, a3))), some (vI x4), some (vI x5), some (vI x6)], [], h) r) : Ev d mL_law (2241, [some (vR (some (5, n0, a0))), some (vR (some (21, 0, a1))), some (vR (some (22, 0, a2))), some (vR (some (2, n3, a3))), some (vI x4), some (vI x5), some (vI x6)], [], h) r :=
  s_aload_n rfl rfl rfl <|
  s_iconst rfl rfl <|
  s_lald rfl rfl (p_lit (k := 0) hi1) <|
  s_iload rfl rfl rfl <|
  s_i2l rfl <|
  s_lcmp rfl <|
  s_if_eq 2253 rfl rfl kt kf
theorem b5_L_law_2251 {d : Nat} {h : PM} {n0 a0 a1 a2 n3 a3 : Nat} {x4 x5 x6 : Int} : Ev d mL_law (2251, [some (vR (some (5, n0, a0))), some (vR (some (21, 0, a1))), some (vR (some (22, 0, a2))), some (vR (some (2, n3, a3))), some (vI x4), some (vI x5), some (vI x6)], [], h) (.inl (some (vI 0)), h) :=
  s_iconst rfl rfl <|
  s_ret rfl rfl
theorem b5_L_law_2253 {d : Nat} {r : PO × PM} {h : PM} {n0 a0 a1 a2 n3 a3 : Nat} {x4 x5 x6 : Int} (k : Ev d mL_law (2427, [some (vR (some (5, n0, a0))), some (vR (some (21, 0, a1))), some (vR (some (22, 0, a2))), some (vR (some (2, n3, a3))), some (vI x4), none, none], [], h) r) : Ev d mL_law (2253, [some (vR (some (5, n0, a0))), some (vR (some (21, 0, a1))), some (vR (some (22, 0, a2))), some (vR (some (2, n3, a3))), some (vI x4), some (vI x5), some (vI x6)], [], h) r :=
  s_goto 2427 rfl rfl (ev_forget [false, false, false, false, false, true, true] rfl k)
theorem b5_L_law_2256 {d : Nat} {r : PO × PM} {h : PM} {n0 a0 a1 a2 n3 a3 : Nat} {x4 : Int} {h1 : PM} (c : Ca d mX11_forget [vR (some (21, 0, a1))] h (.inl none) h1) (k : Ev (d + 1) mL_law (2260, [some (vR (some (5, n0, a0))), some (vR (some (21, 0, a1))), some (vR (some (22, 0, a2))), some (vR (some (2, n3, a3))), some (vI x4), none, none], [], h1) r) : Ev (d + 1) mL_law (2256, [some (vR (some (5, n0, a0))), some (vR (some (21, 0, a1))), some (vR (some (22, 0, a2))), some (vR (some (2, n3, a3))), some (vI x4), none, none], [], h) r :=
  s_aload_n rfl rfl rfl <|
  s_cvV rfl rfl rfl rfl rfl c k
theorem b5_L_law_2260 {d : Nat} {r : PO × PM} {h : PM} {n0 a0 a1 a2 n3 a3 : Nat} {x4 : Int} {h1 : PM} (c : Ca d mX12_forget [vR (some (22, 0, a2))] h (.inl none) h1) (k : Ev (d + 1) mL_law (2264, [some (vR (some (5, n0, a0))), some (vR (some (21, 0, a1))), some (vR (some (22, 0, a2))), some (vR (some (2, n3, a3))), some (vI x4), none, none], [], h1) r) : Ev (d + 1) mL_law (2260, [some (vR (some (5, n0, a0))), some (vR (some (21, 0, a1))), some (vR (some (22, 0, a2))), some (vR (some (2, n3, a3))), some (vI x4), none, none], [], h) r :=
  s_aload_n rfl rfl rfl <|
  s_cvV rfl rfl rfl rfl rfl c k
theorem b5_L_law_2264 {d : Nat} {r : PO × PM} {h : PM} {n0 a0 a1 a2 n3 a3 : Nat} {x4 : Int} (k : Ev d mL_law (2427, [some (vR (some (5, n0, a0))), some (vR (some (21, 0, a1))), some (vR (some (22, 0, a2))), some (vR (some (2, n3, a3))), some (vI x4), none, none], [], h) r) : Ev d mL_law (2264, [some (vR (some (5, n0, a0))), some (vR (some (21, 0, a1))), some (vR (some (22, 0, a2))), some (vR (some (2, n3, a3))), some (vI x4), none, none], [], h) r :=
  s_goto 2427 rfl rfl k
theorem b5_L_law_2267 {d : Nat} {r : PO × PM} {h : PM} {n0 a0 a1 a2 n3 a3 : Nat} {x4 z : Int} {h1 : PM} (ho1 : -2147483648 ≤ x4 + 1 ∧ x4 + 1 ≤ 2147483647) (hi2 : 0 ≤ x4 + 1 ∧ x4 + 1 < (n0 : Nat)) (c : Ca d mL_meant [vR (some (21, 0, a1)), vI (h.1 a0 (x4 + 1).toNat), vR (some (2, n3, a3))] h (.inl (some (vI z))) h1) (k : Ev (d + 1) mL_law (2278, [some (vR (some (5, n0, a0))), some (vR (some (21, 0, a1))), some (vR (some (22, 0, a2))), some (vR (some (2, n3, a3))), some (vI x4), none, none], [vI z], h1) r) : Ev (d + 1) mL_law (2267, [some (vR (some (5, n0, a0))), some (vR (some (21, 0, a1))), some (vR (some (22, 0, a2))), some (vR (some (2, n3, a3))), some (vI x4), none, none], [], h) r :=
  s_aload_n rfl rfl rfl <|
  s_aload_n rfl rfl rfl <|
  s_iload rfl rfl rfl <|
  s_iconst rfl rfl <|
  s_iaddp rfl ho1 <|
  s_iald rfl rfl hi2 <|
  s_aload_n rfl rfl rfl <|
  s_csI rfl rfl rfl rfl rfl rfl c k
theorem b5_L_law_2278 {d : Nat} {r : PO × PM} {h : PM} {n0 a0 a1 a2 n3 a3 : Nat} {x4 xs0 z : Int} {h1 : PM} (ho1 : -2147483648 ≤ x4 + 1 ∧ x4 + 1 ≤ 2147483647) (hi2 : 0 ≤ x4 + 1 ∧ x4 + 1 < (n0 : Nat)) (c : Ca d mX12_meant [vR (some (22, 0, a2)), vI (h.1 a0 (x4 + 1).toNat)] h (.inl (some (vI z))) h1) (k : Ev (d + 1) mL_law (2290, [some (vR (some (5, n0, a0))), some (vR (some (21, 0, a1))), some (vR (some (22, 0, a2))), some (vR (some (2, n3, a3))), some (vI x4), some (vI xs0), none], [vI z], h1) r) : Ev (d + 1) mL_law (2278, [some (vR (some (5, n0, a0))), some (vR (some (21, 0, a1))), some (vR (some (22, 0, a2))), some (vR (some (2, n3, a3))), some (vI x4), none, none], [vI xs0], h) r :=
  s_istore [some (vR (some (5, n0, a0))), some (vR (some (21, 0, a1))), some (vR (some (22, 0, a2))), some (vR (some (2, n3, a3))), some (vI x4), some (vI xs0), none] rfl rfl <|
  s_aload_n rfl rfl rfl <|
  s_aload_n rfl rfl rfl <|
  s_iload rfl rfl rfl <|
  s_iconst rfl rfl <|
  s_iaddp rfl ho1 <|
  s_iald rfl rfl hi2 <|
  s_cvI rfl rfl rfl rfl rfl c k
theorem b5_L_law_2290 {d : Nat} {r : PO × PM} {h : PM} {n0 a0 a1 a2 n3 a3 : Nat} {x4 x5 xs0 z : Int} {h1 : PM} (c : Ca d mX12_thrown [vR (some (22, 0, a2))] h (.inl (some (vI z))) h1) (k : Ev (d + 1) mL_law (2296, [some (vR (some (5, n0, a0))), some (vR (some (21, 0, a1))), some (vR (some (22, 0, a2))), some (vR (some (2, n3, a3))), some (vI x4), some (vI x5), some (vI xs0)], [vI z], h1) r) : Ev (d + 1) mL_law (2290, [some (vR (some (5, n0, a0))), some (vR (some (21, 0, a1))), some (vR (some (22, 0, a2))), some (vR (some (2, n3, a3))), some (vI x4), some (vI x5), none], [vI xs0], h) r :=
  s_istore [some (vR (some (5, n0, a0))), some (vR (some (21, 0, a1))), some (vR (some (22, 0, a2))), some (vR (some (2, n3, a3))), some (vI x4), some (vI x5), some (vI xs0)] rfl rfl <|
  s_aload_n rfl rfl rfl <|
  s_cvI rfl rfl rfl rfl rfl c k
theorem b5_L_law_2296 {d : Nat} {r : PO × PM} {h : PM} {n0 a0 a1 a2 n3 a3 : Nat} {x4 x5 x6 xs0 : Int} (kt : xs0 = x5 → Ev d mL_law (2303, [some (vR (some (5, n0, a0))), some (vR (some (21, 0, a1))), some (vR (some (22, 0, a2))), some (vR (some (2, n3, a3))), some (vI x4), some (vI x5), some (vI x6)], [], h) r) (kf : xs0 ≠ x5 → Ev d mL_law (2301, [some (vR (some (5, n0, a0))), some (vR (some (21, 0, a1))), some (vR (some (22, 0, a2))), some (vR (some (2, n3, a3))), some (vI x4), some (vI x5), some (vI x6)], [], h) r) : Ev d mL_law (2296, [some (vR (some (5, n0, a0))), some (vR (some (21, 0, a1))), some (vR (some (22, 0, a2))), some (vR (some (2, n3, a3))), some (vI x4), some (vI x5), some (vI x6)], [vI xs0], h) r :=
  s_iload rfl rfl rfl <|
  s_icmp_eq 2303 rfl rfl kt kf
theorem b5_L_law_2301 {d : Nat} {h : PM} {n0 a0 a1 a2 n3 a3 : Nat} {x4 x5 x6 : Int} : Ev d mL_law (2301, [some (vR (some (5, n0, a0))), some (vR (some (21, 0, a1))), some (vR (some (22, 0, a2))), some (vR (some (2, n3, a3))), some (vI x4), some (vI x5), some (vI x6)], [], h) (.inl (some (vI 0)), h) :=
  s_iconst rfl rfl <|
  s_ret rfl rfl
theorem b5_L_law_2303 {d : Nat} {r : PO × PM} {h : PM} {n0 a0 a1 a2 n3 a3 : Nat} {x4 x5 x6 : Int} (kt : x5 ≠ 0 → Ev d mL_law (2320, [some (vR (some (5, n0, a0))), some (vR (some (21, 0, a1))), some (vR (some (22, 0, a2))), some (vR (some (2, n3, a3))), some (vI x4), some (vI x5), some (vI x6)], [], h) r) (kf : x5 = 0 → Ev d mL_law (2308, [some (vR (some (5, n0, a0))), some (vR (some (21, 0, a1))), some (vR (some (22, 0, a2))), some (vR (some (2, n3, a3))), some (vI x4), some (vI x5), some (vI x6)], [], h) r) : Ev d mL_law (2303, [some (vR (some (5, n0, a0))), some (vR (some (21, 0, a1))), some (vR (some (22, 0, a2))), some (vR (some (2, n3, a3))), some (vI x4), some (vI x5), some (vI x6)], [], h) r :=
  s_iload rfl rfl rfl <|
  s_if_ne 2320 rfl rfl kt kf
theorem b5_L_law_2308 {d : Nat} {r : PO × PM} {h : PM} {n0 a0 a1 a2 n3 a3 : Nat} {x4 x5 x6 : Int} (hi1 : 0 < n3) (kt : p_lcmp (h.1 a3 0) (p_i2l x6) = 0 → Ev d mL_law (2320, [some (vR (some (5, n0, a0))), some (vR (some (21, 0, a1))), some (vR (some (22, 0, a2))), some (vR (some (2, n3, a3))), some (vI x4), some (vI x5), some (vI x6)], [], h) r) (kf : p_lcmp (h.1 a3 0) (p_i2l x6) ≠ 0 → Ev d mL_law (2318, [some (vR (some (5, n0, a0))), some (vR (some (21, 0, a1))), some (vR (some (22, 0, a2))), some (vR (some (2, n3, a3))), some (vI x4), some (vI x5), some (vI x6)], [], h) r) : Ev d mL_law (2308, [some (vR (some (5, n0, a0))), some (vR (some (21, 0, a1))), some (vR (some (22, 0, a2))), some (vR (some (2, n3, a3))), some (vI x4), some (vI x5), some (vI x6)], [], h) r :=
  s_aload_n rfl rfl rfl <|
  s_iconst rfl rfl <|
  s_lald rfl rfl (p_lit (k := 0) hi1) <|
  s_iload rfl rfl rfl <|
  s_i2l rfl <|
  s_lcmp rfl <|
  s_if_eq 2320 rfl rfl kt kf
theorem b5_L_law_2318 {d : Nat} {h : PM} {n0 a0 a1 a2 n3 a3 : Nat} {x4 x5 x6 : Int} : Ev d mL_law (2318, [some (vR (some (5, n0, a0))), some (vR (some (21, 0, a1))), some (vR (some (22, 0, a2))), some (vR (some (2, n3, a3))), some (vI x4), some (vI x5), some (vI x6)], [], h) (.inl (some (vI 0)), h) :=
  s_iconst rfl rfl <|
  s_ret rfl rfl
theorem b5_L_law_2320 {d : Nat} {r : PO × PM} {h : PM} {n0 a0 a1 a2 n3 a3 : Nat} {x4 x5 x6 : Int} (k : Ev d mL_law (2427, [some (vR (some (5, n0, a0))), some (vR (some (21, 0, a1))), some (vR (some (22, 0, a2))), some (vR (some (2, n3, a3))), some (vI x4), none, none], [], h) r) : Ev d mL_law (2320, [some (vR (some (5, n0, a0))), some (vR (some (21, 0, a1))), some (vR (some (22, 0, a2))), some (vR (some (2, n3, a3))), some (vI x4), some (vI x5), some (vI x6)], [], h) r :=
  s_goto 2427 rfl rfl (ev_forget [false, false, false, false, false, true, true] rfl k)
theorem b5_L_law_2323 {d : Nat} {r : PO × PM} {h : PM} {n0 a0 a1 a2 n3 a3 : Nat} {x4 z : Int} {h1 : PM} (ho1 : -2147483648 ≤ x4 + 1 ∧ x4 + 1 ≤ 2147483647) (hi2 : 0 ≤ x4 + 1 ∧ x4 + 1 < (n0 : Nat)) (ho3 : -2147483648 ≤ x4 + 2 ∧ x4 + 2 ≤ 2147483647) (hi4 : 0 ≤ x4 + 2 ∧ x4 + 2 < (n0 : Nat)) (ho5 : -2147483648 ≤ x4 + 3 ∧ x4 + 3 ≤ 2147483647) (hi6 : 0 ≤ x4 + 3 ∧ x4 + 3 < (n0 : Nat)) (c : Ca d mL_years [vR (some (21, 0, a1)), vI (h.1 a0 (x4 + 1).toNat), vI (h.1 a0 (x4 + 2).toNat), vI (h.1 a0 (x4 + 3).toNat), vR (some (2, n3, a3))] h (.inl (some (vI z))) h1) (k : Ev (d + 1) mL_law (2346, [some (vR (some (5, n0, a0))), some (vR (some (21, 0, a1))), some (vR (some (22, 0, a2))), some (vR (some (2, n3, a3))), some (vI x4), none, none], [vI z], h1) r) : Ev (d + 1) mL_law (2323, [some (vR (some (5, n0, a0))), some (vR (some (21, 0, a1))), some (vR (some (22, 0, a2))), some (vR (some (2, n3, a3))), some (vI x4), none, none], [], h) r :=
  s_aload_n rfl rfl rfl <|
  s_aload_n rfl rfl rfl <|
  s_iload rfl rfl rfl <|
  s_iconst rfl rfl <|
  s_iaddp rfl ho1 <|
  s_iald rfl rfl hi2 <|
  s_aload_n rfl rfl rfl <|
  s_iload rfl rfl rfl <|
  s_iconst rfl rfl <|
  s_iaddp rfl ho3 <|
  s_iald rfl rfl hi4 <|
  s_aload_n rfl rfl rfl <|
  s_iload rfl rfl rfl <|
  s_iconst rfl rfl <|
  s_iaddp rfl ho5 <|
  s_iald rfl rfl hi6 <|
  s_aload_n rfl rfl rfl <|
  s_csI rfl rfl rfl rfl rfl rfl c k
theorem b5_L_law_2346 {d : Nat} {r : PO × PM} {h : PM} {n0 a0 a1 a2 n3 a3 : Nat} {x4 xs0 z : Int} {h1 : PM} (ho1 : -2147483648 ≤ x4 + 1 ∧ x4 + 1 ≤ 2147483647) (hi2 : 0 ≤ x4 + 1 ∧ x4 + 1 < (n0 : Nat)) (ho3 : -2147483648 ≤ x4 + 2 ∧ x4 + 2 ≤ 2147483647) (hi4 : 0 ≤ x4 + 2 ∧ x4 + 2 < (n0 : Nat)) (ho5 : -2147483648 ≤ x4 + 3 ∧ x4 + 3 ≤ 2147483647) (hi6 : 0 ≤ x4 + 3 ∧ x4 + 3 < (n0 : Nat)) (c : Ca d mX12_years [vR (some (22, 0, a2)), vI (h.1 a0 (x4 + 1).toNat), vI (h.1 a0 (x4 + 2).toNat), vI (h.1 a0 (x4 + 3).toNat)] h (.inl (some (vI z))) h1) (k : Ev (d + 1) mL_law (2370, [some (vR (some (5, n0, a0))), some (vR (some (21, 0, a1))), some (vR (some (22, 0, a2))), some (vR (some (2, n3, a3))), some (vI x4), some (vI xs0), none], [vI z], h1) r) : Ev (d + 1) mL_law (2346, [some (vR (some (5, n0, a0))), some (vR (some (21, 0, a1))), some (vR (some (22, 0, a2))), some (vR (some (2, n3, a3))), some (vI x4), none, none], [vI xs0], h) r :=
  s_istore [some (vR (some (5, n0, a0))), some (vR (some (21, 0, a1))), some (vR (some (22, 0, a2))), some (vR (some (2, n3, a3))), some (vI x4), some (vI xs0), none] rfl rfl <|
  s_aload_n rfl rfl rfl <|
  s_aload_n rfl rfl rfl <|
  s_iload rfl rfl rfl <|
  s_iconst rfl rfl <|
  s_iaddp rfl ho1 <|
  s_iald rfl rfl hi2 <|
  s_aload_n rfl rfl rfl <|
  s_iload rfl rfl rfl <|
  s_iconst rfl rfl <|
  s_iaddp rfl ho3 <|
  s_iald rfl rfl hi4 <|
  s_aload_n rfl rfl rfl <|
  s_iload rfl rfl rfl <|
  s_iconst rfl rfl <|
  s_iaddp rfl ho5 <|
  s_iald rfl rfl hi6 <|
  s_cvI rfl rfl rfl rfl rfl c k
theorem b5_L_law_2370 {d : Nat} {r : PO × PM} {h : PM} {n0 a0 a1 a2 n3 a3 : Nat} {x4 x5 xs0 z : Int} {h1 : PM} (c : Ca d mX12_thrown [vR (some (22, 0, a2))] h (.inl (some (vI z))) h1) (k : Ev (d + 1) mL_law (2376, [some (vR (some (5, n0, a0))), some (vR (some (21, 0, a1))), some (vR (some (22, 0, a2))), some (vR (some (2, n3, a3))), some (vI x4), some (vI x5), some (vI xs0)], [vI z], h1) r) : Ev (d + 1) mL_law (2370, [some (vR (some (5, n0, a0))), some (vR (some (21, 0, a1))), some (vR (some (22, 0, a2))), some (vR (some (2, n3, a3))), some (vI x4), some (vI x5), none], [vI xs0], h) r :=
  s_istore [some (vR (some (5, n0, a0))), some (vR (some (21, 0, a1))), some (vR (some (22, 0, a2))), some (vR (some (2, n3, a3))), some (vI x4), some (vI x5), some (vI xs0)] rfl rfl <|
  s_aload_n rfl rfl rfl <|
  s_cvI rfl rfl rfl rfl rfl c k
theorem b5_L_law_2376 {d : Nat} {r : PO × PM} {h : PM} {n0 a0 a1 a2 n3 a3 : Nat} {x4 x5 x6 xs0 : Int} (kt : xs0 = x5 → Ev d mL_law (2383, [some (vR (some (5, n0, a0))), some (vR (some (21, 0, a1))), some (vR (some (22, 0, a2))), some (vR (some (2, n3, a3))), some (vI x4), some (vI x5), some (vI x6)], [], h) r) (kf : xs0 ≠ x5 → Ev d mL_law (2381, [some (vR (some (5, n0, a0))), some (vR (some (21, 0, a1))), some (vR (some (22, 0, a2))), some (vR (some (2, n3, a3))), some (vI x4), some (vI x5), some (vI x6)], [], h) r) : Ev d mL_law (2376, [some (vR (some (5, n0, a0))), some (vR (some (21, 0, a1))), some (vR (some (22, 0, a2))), some (vR (some (2, n3, a3))), some (vI x4), some (vI x5), some (vI x6)], [vI xs0], h) r :=
  s_iload rfl rfl rfl <|
  s_icmp_eq 2383 rfl rfl kt kf
theorem b5_L_law_2381 {d : Nat} {h : PM} {n0 a0 a1 a2 n3 a3 : Nat} {x4 x5 x6 : Int} : Ev d mL_law (2381, [some (vR (some (5, n0, a0))), some (vR (some (21, 0, a1))), some (vR (some (22, 0, a2))), some (vR (some (2, n3, a3))), some (vI x4), some (vI x5), some (vI x6)], [], h) (.inl (some (vI 0)), h) :=
  s_iconst rfl rfl <|
  s_ret rfl rfl
theorem b5_L_law_2383 {d : Nat} {r : PO × PM} {h : PM} {n0 a0 a1 a2 n3 a3 : Nat} {x4 x5 x6 : Int} (kt : x5 ≠ 0 → Ev d mL_law (2400, [some (vR (some (5, n0, a0))), some (vR (some (21, 0, a1))), some (vR (some (22, 0, a2))), some (vR (some (2, n3, a3))), some (vI x4), some (vI x5), some (vI x6)], [], h) r) (kf : x5 = 0 → Ev d mL_law (2388, [some (vR (some (5, n0, a0))), some (vR (some (21, 0, a1))), some (vR (some (22, 0, a2))), some (vR (some (2, n3, a3))), some (vI x4), some (vI x5), some (vI x6)], [], h) r) : Ev d mL_law (2383, [some (vR (some (5, n0, a0))), some (vR (some (21, 0, a1))), some (vR (some (22, 0, a2))), some (vR (some (2, n3, a3))), some (vI x4), some (vI x5), some (vI x6)], [], h) r :=
  s_iload rfl rfl rfl <|
  s_if_ne 2400 rfl rfl kt kf
theorem b5_L_law_2388 {d : Nat} {r : PO × PM} {h : PM} {n0 a0 a1 a2 n3 a3 : Nat} {x4 x5 x6 : Int} (hi1 : 0 < n3) (kt : p_lcmp (h.1 a3 0) (p_i2l x6) = 0 → Ev d mL_law (2400, [some (vR (some (5, n0, a0))), some (vR (some (21, 0, a1))), some (vR (some (22, 0, a2))), some (vR (some (2, n3, a3))), some (vI x4), some (vI x5), some (vI x6)], [], h) r) (kf : p_lcmp (h.1 a3 0) (p_i2l x6) ≠ 0 → Ev d mL_law (2398, [some (vR (some (5, n0, a0))), some (vR (some (21, 0, a1))), some (vR (some (22, 0, a2))), some (vR (some (2, n3, a3))), some (vI x4), some (vI x5), some (vI x6)], [], h) r) : Ev d mL_law (2388, [some (vR (some (5, n0, a0))), some (vR (some (21, 0, a1))), some (vR (some (22, 0, a2))), some (vR (some (2, n3, a3))), some (vI x4), some (vI x5), some (vI x6)], [], h) r :=
  s_aload_n rfl rfl rfl <|
  s_iconst rfl rfl <|
  s_lald rfl rfl (p_lit (k := 0) hi1) <|
  s_iload rfl rfl rfl <|
  s_i2l rfl <|
  s_lcmp rfl <|
  s_if_eq 2400 rfl rfl kt kf
theorem b5_L_law_2398 {d : Nat} {h : PM} {n0 a0 a1 a2 n3 a3 : Nat} {x4 x5 x6 : Int} : Ev d mL_law (2398, [some (vR (some (5, n0, a0))), some (vR (some (21, 0, a1))), some (vR (some (22, 0, a2))), some (vR (some (2, n3, a3))), some (vI x4), some (vI x5), some (vI x6)], [], h) (.inl (some (vI 0)), h) :=
  s_iconst rfl rfl <|
  s_ret rfl rfl
theorem b5_L_law_2400 {d : Nat} {r : PO × PM} {h : PM} {n0 a0 a1 a2 n3 a3 : Nat} {x4 x5 x6 : Int} (k : Ev d mL_law (2427, [some (vR (some (5, n0, a0))), some (vR (some (21, 0, a1))), some (vR (some (22, 0, a2))), some (vR (some (2, n3, a3))), some (vI x4), none, none], [], h) r) : Ev d mL_law (2400, [some (vR (some (5, n0, a0))), some (vR (some (21, 0, a1))), some (vR (some (22, 0, a2))), some (vR (some (2, n3, a3))), some (vI x4), some (vI x5), some (vI x6)], [], h) r :=
  s_goto 2427 rfl rfl (ev_forget [false, false, false, false, false, true, true] rfl k)
theorem b5_L_law_2403 {d : Nat} {r : PO × PM} {h : PM} {n0 a0 a1 a2 n3 a3 : Nat} {x4 : Int} {h1 : PM} (c : Ca d mX11_image [vR (some (21, 0, a1))] h (.inl none) h1) (k : Ev (d + 1) mL_law (2407, [some (vR (some (5, n0, a0))), some (vR (some (21, 0, a1))), some (vR (some (22, 0, a2))), some (vR (some (2, n3, a3))), some (vI x4), none, none], [], h1) r) : Ev (d + 1) mL_law (2403, [some (vR (some (5, n0, a0))), some (vR (some (21, 0, a1))), some (vR (some (22, 0, a2))), some (vR (some (2, n3, a3))), some (vI x4), none, none], [], h) r :=
  s_aload_n rfl rfl rfl <|
  s_cvV rfl rfl rfl rfl rfl c k
theorem b5_L_law_2407 {d : Nat} {r : PO × PM} {h : PM} {n0 a0 a1 a2 n3 a3 : Nat} {x4 : Int} {h1 : PM} (c : Ca d mX12_image [vR (some (22, 0, a2))] h (.inl none) h1) (k : Ev (d + 1) mL_law (2411, [some (vR (some (5, n0, a0))), some (vR (some (21, 0, a1))), some (vR (some (22, 0, a2))), some (vR (some (2, n3, a3))), some (vI x4), none, none], [], h1) r) : Ev (d + 1) mL_law (2407, [some (vR (some (5, n0, a0))), some (vR (some (21, 0, a1))), some (vR (some (22, 0, a2))), some (vR (some (2, n3, a3))), some (vI x4), none, none], [], h) r :=
  s_aload_n rfl rfl rfl <|
  s_cvV rfl rfl rfl rfl rfl c k
theorem b5_L_law_2411 {d : Nat} {r : PO × PM} {h : PM} {n0 a0 a1 a2 n3 a3 : Nat} {x4 : Int} (k : Ev d mL_law (2427, [some (vR (some (5, n0, a0))), some (vR (some (21, 0, a1))), some (vR (some (22, 0, a2))), some (vR (some (2, n3, a3))), some (vI x4), none, none], [], h) r) : Ev d mL_law (2411, [some (vR (some (5, n0, a0))), some (vR (some (21, 0, a1))), some (vR (some (22, 0, a2))), some (vR (some (2, n3, a3))), some (vI x4), none, none], [], h) r :=
  s_goto 2427 rfl rfl k
theorem b5_L_law_2414 {d : Nat} {r : PO × PM} {h : PM} {n0 a0 a1 a2 n3 a3 : Nat} {x4 z : Int} {h1 : PM} (c : Ca d mX11_restore [vR (some (21, 0, a1))] h (.inl (some (vI z))) h1) (k : Ev (d + 1) mL_law (2418, [some (vR (some (5, n0, a0))), some (vR (some (21, 0, a1))), some (vR (some (22, 0, a2))), some (vR (some (2, n3, a3))), some (vI x4), none, none], [vI z], h1) r) : Ev (d + 1) mL_law (2414, [some (vR (some (5, n0, a0))), some (vR (some (21, 0, a1))), some (vR (some (22, 0, a2))), some (vR (some (2, n3, a3))), some (vI x4), none, none], [], h) r :=
  s_aload_n rfl rfl rfl <|
  s_cvI rfl rfl rfl rfl rfl c k
theorem b5_L_law_2418 {d : Nat} {r : PO × PM} {h : PM} {n0 a0 a1 a2 n3 a3 : Nat} {x4 xs0 z : Int} {h1 : PM} (c : Ca d mX12_restore [vR (some (22, 0, a2))] h (.inl (some (vI z))) h1) (k : Ev (d + 1) mL_law (2422, [some (vR (some (5, n0, a0))), some (vR (some (21, 0, a1))), some (vR (some (22, 0, a2))), some (vR (some (2, n3, a3))), some (vI x4), none, none], [vI z, vI xs0], h1) r) : Ev (d + 1) mL_law (2418, [some (vR (some (5, n0, a0))), some (vR (some (21, 0, a1))), some (vR (some (22, 0, a2))), some (vR (some (2, n3, a3))), some (vI x4), none, none], [vI xs0], h) r :=
  s_aload_n rfl rfl rfl <|
  s_cvI rfl rfl rfl rfl rfl c k
theorem b5_L_law_2422 {d : Nat} {r : PO × PM} {h : PM} {n0 a0 a1 a2 n3 a3 : Nat} {x4 xs0 xs1 : Int} (kt : xs0 = xs1 → Ev d mL_law (2427, [some (vR (some (5, n0, a0))), some (vR (some (21, 0, a1))), some (vR (some (22, 0, a2))), some (vR (some (2, n3, a3))), some (vI x4), none, none], [], h) r) (kf : xs0 ≠ xs1 → Ev d mL_law (2425, [some (vR (some (5, n0, a0))), some (vR (some (21, 0, a1))), some (vR (some (22, 0, a2))), some (vR (some (2, n3, a3))), some (vI x4), none, none], [], h) r) : Ev d mL_law (2422, [some (vR (some (5, n0, a0))), some (vR (some (21, 0, a1))), some (vR (some (22, 0, a2))), some (vR (some (2, n3, a3))), some (vI x4), none, none], [vI xs1, vI xs0], h) r :=
  s_icmp_eq 2427 rfl rfl kt kf
theorem b5_L_law_2425 {d : Nat} {h : PM} {n0 a0 a1 a2 n3 a3 : Nat} {x4 : Int} : Ev d mL_law (2425, [some (vR (some (5, n0, a0))), some (vR (some (21, 0, a1))), some (vR (some (22, 0, a2))), some (vR (some (2, n3, a3))), some (vI x4), none, none], [], h) (.inl (some (vI 0)), h) :=
  s_iconst rfl rfl <|
  s_ret rfl rfl
theorem b5_L_law_2427 {d : Nat} {r : PO × PM} {h : PM} {n0 a0 a1 a2 n3 a3 : Nat} {x4 : Int} (ho1 : -2147483648 ≤ x4 + 6 ∧ x4 + 6 ≤ 2147483647) (k : Ev d mL_law (23, [some (vR (some (5, n0, a0))), some (vR (some (21, 0, a1))), some (vR (some (22, 0, a2))), some (vR (some (2, n3, a3))), some (vI (x4 + 6)), none, none], [], h) r) : Ev d mL_law (2427, [some (vR (some (5, n0, a0))), some (vR (some (21, 0, a1))), some (vR (some (22, 0, a2))), some (vR (some (2, n3, a3))), some (vI x4), none, none], [], h) r :=
  s_iincp [some (vR (some (5, n0, a0))), some (vR (some (21, 0, a1))), some (vR (some (22, 0, a2))), some (vR (some (2, n3, a3))), some (vI (x4 + 6)), none, none] rfl rfl ho1 rfl <|
  s_goto 23 rfl rfl k
theorem b5_L_law_2433 {d : Nat} {h : PM} {n0 a0 a1 a2 n3 a3 : Nat} {x4 : Int} : Ev d mL_law (2433, [some (vR (some (5, n0, a0))), some (vR (some (21, 0, a1))), some (vR (some (22, 0, a2))), some (vR (some (2, n3, a3))), some (vI x4), none, none], [], h) (.inl (some (vI 1)), h) :=
  s_iconst rfl rfl <|
  s_ret rfl rfl
end
section
variable {I J : Nat → Nat → Int} {S S' : PS} {k v : Int}
theorem lcmp_self (x : Int) : p_lcmp x x = 0 := by
  unfold p_lcmp lg_cmp
  rw [if_neg (fun q => Int64.lt_irrefl q), if_pos rfl]
  rfl
theorem ecI_e {e : Nat} (h : ecI e ≠ 0) : e = 1 := by
  unfold ecI at h
  by_cases q : e = 1
  · exact q
  · rw [if_neg q] at h; exact absurd rfl h
theorem ecA_e {e : Nat} (h : ecA e ≠ 0) : e = 0 := by
  unfold ecA at h
  by_cases q : e = 0
  · exact q
  · rw [if_neg q] at h; exact absurd rfl h
theorem ecN_e {e : Nat} (h : ecN e ≠ 0) : e = 1 ∨ e = 0 := by
  unfold ecN at h
  by_cases q : e = 1
  · exact Or.inl q
  · rw [if_neg q] at h
    by_cases q2 : e = 0
    · exact Or.inr q2
    · rw [if_neg q2] at h; exact absurd rfl h
theorem ecR_e {e : Nat} (h : ecR e ≠ 0) : e = 1 ∨ e = 2 := by
  unfold ecR at h
  by_cases q : e = 1
  · exact Or.inl q
  · rw [if_neg q] at h
    by_cases q2 : e = 2
    · exact Or.inr q2
    · rw [if_neg q2] at h; exact absurd rfl h
theorem ecZ_e {e : Nat} (h : ecZ e ≠ 0) : False := h rfl
theorem smm_atlas {x1 : Int} (hcl : (k = 0 ∧ Ca 60 mX11_atlas [vR (some (21, 0, 31)), vI x1] (I, S) (.inl (some (vI v))) (J, S')) ∨ (∃ e, k = ecA e ∧ k ≠ 0 ∧ Ca 60 mX11_atlas [vR (some (21, 0, 31)), vI x1] (I, S) (.inr e) (J, S'))) : ∃ J1, Ca 61 mL_atlas [vR (some (21, 0, 31)), vI x1, vR (some (2, 1, 191))] (I, S) (.inl (some (vI k))) (J1, S') ∧ (∀ a, a ≠ 191 → J1 a = J a) ∧ (k = 0 → J1 191 0 = p_i2l v) := by
  rcases hcl with ⟨k0, hc⟩ | ⟨e, ke, kn, hc⟩
  · subst k0
    exact ⟨up2 J 191 0 (p_i2l v), Ca.of rfl rfl (b_L_atlas_0 hc (b_L_atlas_7 (by decide) b_L_atlas_15)), fun a ha => funext (fun j => up2_a _ ha), fun _ => up2_same _ _ _ _⟩
  · have ee := ecA_e (by rw [← ke]; exact kn)
    subst ee
    have kv : k = 1 := by rw [ke]; rfl
    subst kv
    exact ⟨J, Ca.of rfl rfl (s_aload_n rfl rfl rfl <| s_iconst rfl rfl <| s_aload_n rfl rfl rfl <| s_iload_n rfl rfl rfl <| s_cvC rfl rfl rfl rfl rfl hc rfl (s_iconst rfl rfl (s_ret rfl rfl))), fun _ _ => rfl, fun q => absurd q (by decide)⟩
theorem smm_count {x1 : Int} (hcl : (k = 0 ∧ Ca 60 mX11_count [vR (some (21, 0, 31)), vI x1] (I, S) (.inl (some (vI v))) (J, S')) ∨ (∃ e, k = ecI e ∧ k ≠ 0 ∧ Ca 60 mX11_count [vR (some (21, 0, 31)), vI x1] (I, S) (.inr e) (J, S'))) : ∃ J1, Ca 61 mL_count [vR (some (21, 0, 31)), vI x1, vR (some (2, 1, 191))] (I, S) (.inl (some (vI k))) (J1, S') ∧ (∀ a, a ≠ 191 → J1 a = J a) ∧ (k = 0 → J1 191 0 = p_i2l v) := by
  rcases hcl with ⟨k0, hc⟩ | ⟨e, ke, kn, hc⟩
  · subst k0
    exact ⟨up2 J 191 0 (p_i2l v), Ca.of rfl rfl (b_L_count_0 hc (b_L_count_7 (by decide) b_L_count_15)), fun a ha => funext (fun j => up2_a _ ha), fun _ => up2_same _ _ _ _⟩
  · have ee := ecI_e (by rw [← ke]; exact kn)
    subst ee
    have kv : k = 1 := by rw [ke]; rfl
    subst kv
    exact ⟨J, Ca.of rfl rfl (s_aload_n rfl rfl rfl <| s_iconst rfl rfl <| s_aload_n rfl rfl rfl <| s_iload_n rfl rfl rfl <| s_cvC rfl rfl rfl rfl rfl hc rfl (s_iconst rfl rfl (s_ret rfl rfl))), fun _ _ => rfl, fun q => absurd q (by decide)⟩
theorem smm_piece {x1 x2 : Int} (hcl : (k = 0 ∧ Ca 60 mX11_piece [vR (some (21, 0, 31)), vI x1, vI x2] (I, S) (.inl (some (vI v))) (J, S')) ∨ (∃ e, k = ecI e ∧ k ≠ 0 ∧ Ca 60 mX11_piece [vR (some (21, 0, 31)), vI x1, vI x2] (I, S) (.inr e) (J, S'))) : ∃ J1, Ca 61 mL_piece [vR (some (21, 0, 31)), vI x1, vI x2, vR (some (2, 1, 191))] (I, S) (.inl (some (vI k))) (J1, S') ∧ (∀ a, a ≠ 191 → J1 a = J a) ∧ (k = 0 → J1 191 0 = p_i2l v) := by
  rcases hcl with ⟨k0, hc⟩ | ⟨e, ke, kn, hc⟩
  · subst k0
    exact ⟨up2 J 191 0 (p_i2l v), Ca.of rfl rfl (b_L_piece_0 hc (b_L_piece_8 (by decide) b_L_piece_17)), fun a ha => funext (fun j => up2_a _ ha), fun _ => up2_same _ _ _ _⟩
  · have ee := ecI_e (by rw [← ke]; exact kn)
    subst ee
    have kv : k = 1 := by rw [ke]; rfl
    subst kv
    exact ⟨J, Ca.of rfl rfl (s_aload_n rfl rfl rfl <| s_iconst rfl rfl <| s_aload_n rfl rfl rfl <| s_iload_n rfl rfl rfl <| s_iload_n rfl rfl rfl <| s_cvC rfl rfl rfl rfl rfl hc rfl (s_iconst rfl rfl (s_ret rfl rfl))), fun _ _ => rfl, fun q => absurd q (by decide)⟩
theorem smm_vertex {x1 x2 : Int} (hcl : (k = 0 ∧ Ca 60 mX11_vertex [vR (some (21, 0, 31)), vI x1, vI x2] (I, S) (.inl (some (vI v))) (J, S')) ∨ (∃ e, k = ecI e ∧ k ≠ 0 ∧ Ca 60 mX11_vertex [vR (some (21, 0, 31)), vI x1, vI x2] (I, S) (.inr e) (J, S'))) : ∃ J1, Ca 61 mL_vertex [vR (some (21, 0, 31)), vI x1, vI x2, vR (some (2, 1, 191))] (I, S) (.inl (some (vI k))) (J1, S') ∧ (∀ a, a ≠ 191 → J1 a = J a) ∧ (k = 0 → J1 191 0 = p_i2l v) := by
  rcases hcl with ⟨k0, hc⟩ | ⟨e, ke, kn, hc⟩
  · subst k0
    exact ⟨up2 J 191 0 (p_i2l v), Ca.of rfl rfl (b_L_vertex_0 hc (b_L_vertex_8 (by decide) b_L_vertex_17)), fun a ha => funext (fun j => up2_a _ ha), fun _ => up2_same _ _ _ _⟩
  · have ee := ecI_e (by rw [← ke]; exact kn)
    subst ee
    have kv : k = 1 := by rw [ke]; rfl
    subst kv
    exact ⟨J, Ca.of rfl rfl (s_aload_n rfl rfl rfl <| s_iconst rfl rfl <| s_aload_n rfl rfl rfl <| s_iload_n rfl rfl rfl <| s_iload_n rfl rfl rfl <| s_cvC rfl rfl rfl rfl rfl hc rfl (s_iconst rfl rfl (s_ret rfl rfl))), fun _ _ => rfl, fun q => absurd q (by decide)⟩
theorem smm_colour {x1 x2 x3 : Int} (hcl : (k = 0 ∧ Ca 60 mX11_colour [vR (some (21, 0, 31)), vI x1, vI x2, vI x3] (I, S) (.inl (some (vI v))) (J, S')) ∨ (∃ e, k = ecI e ∧ k ≠ 0 ∧ Ca 60 mX11_colour [vR (some (21, 0, 31)), vI x1, vI x2, vI x3] (I, S) (.inr e) (J, S'))) : ∃ J1, Ca 61 mL_colour [vR (some (21, 0, 31)), vI x1, vI x2, vI x3, vR (some (2, 1, 191))] (I, S) (.inl (some (vI k))) (J1, S') ∧ (∀ a, a ≠ 191 → J1 a = J a) ∧ (k = 0 → J1 191 0 = p_i2l v) := by
  rcases hcl with ⟨k0, hc⟩ | ⟨e, ke, kn, hc⟩
  · subst k0
    exact ⟨up2 J 191 0 (p_i2l v), Ca.of rfl rfl (b_L_colour_0 hc (b_L_colour_10 (by decide) b_L_colour_19)), fun a ha => funext (fun j => up2_a _ ha), fun _ => up2_same _ _ _ _⟩
  · have ee := ecI_e (by rw [← ke]; exact kn)
    subst ee
    have kv : k = 1 := by rw [ke]; rfl
    subst kv
    exact ⟨J, Ca.of rfl rfl (s_aload rfl rfl rfl <| s_iconst rfl rfl <| s_aload_n rfl rfl rfl <| s_iload_n rfl rfl rfl <| s_iload_n rfl rfl rfl <| s_iload_n rfl rfl rfl <| s_cvC rfl rfl rfl rfl rfl hc rfl (s_iconst rfl rfl (s_ret rfl rfl))), fun _ _ => rfl, fun q => absurd q (by decide)⟩
theorem smm_named {x1 x2 : Int} (hcl : (k = 0 ∧ Ca 60 mX11_named [vR (some (21, 0, 31)), vI x1, vI x2] (I, S) (.inl (some (vI v))) (J, S')) ∨ (∃ e, k = ecI e ∧ k ≠ 0 ∧ Ca 60 mX11_named [vR (some (21, 0, 31)), vI x1, vI x2] (I, S) (.inr e) (J, S'))) : ∃ J1, Ca 61 mL_named [vR (some (21, 0, 31)), vI x1, vI x2, vR (some (2, 1, 191))] (I, S) (.inl (some (vI k))) (J1, S') ∧ (∀ a, a ≠ 191 → J1 a = J a) ∧ (k = 0 → J1 191 0 = p_i2l v) := by
  rcases hcl with ⟨k0, hc⟩ | ⟨e, ke, kn, hc⟩
  · subst k0
    exact ⟨up2 J 191 0 (p_i2l v), Ca.of rfl rfl (b_L_named_0 hc (b_L_named_8 (by decide) b_L_named_17)), fun a ha => funext (fun j => up2_a _ ha), fun _ => up2_same _ _ _ _⟩
  · have ee := ecI_e (by rw [← ke]; exact kn)
    subst ee
    have kv : k = 1 := by rw [ke]; rfl
    subst kv
    exact ⟨J, Ca.of rfl rfl (s_aload_n rfl rfl rfl <| s_iconst rfl rfl <| s_aload_n rfl rfl rfl <| s_iload_n rfl rfl rfl <| s_iload_n rfl rfl rfl <| s_cvC rfl rfl rfl rfl rfl hc rfl (s_iconst rfl rfl (s_ret rfl rfl))), fun _ _ => rfl, fun q => absurd q (by decide)⟩
theorem smm_level {x1 x2 : Int} (hcl : (k = 0 ∧ Ca 60 mX11_level [vR (some (21, 0, 31)), vI x1, vI x2] (I, S) (.inl (some (vI v))) (J, S')) ∨ (∃ e, k = ecI e ∧ k ≠ 0 ∧ Ca 60 mX11_level [vR (some (21, 0, 31)), vI x1, vI x2] (I, S) (.inr e) (J, S'))) : ∃ J1, Ca 61 mL_level [vR (some (21, 0, 31)), vI x1, vI x2, vR (some (2, 1, 191))] (I, S) (.inl (some (vI k))) (J1, S') ∧ (∀ a, a ≠ 191 → J1 a = J a) ∧ (k = 0 → J1 191 0 = p_i2l v) := by
  rcases hcl with ⟨k0, hc⟩ | ⟨e, ke, kn, hc⟩
  · subst k0
    exact ⟨up2 J 191 0 (p_i2l v), Ca.of rfl rfl (b_L_level_0 hc (b_L_level_8 (by decide) b_L_level_17)), fun a ha => funext (fun j => up2_a _ ha), fun _ => up2_same _ _ _ _⟩
  · have ee := ecI_e (by rw [← ke]; exact kn)
    subst ee
    have kv : k = 1 := by rw [ke]; rfl
    subst kv
    exact ⟨J, Ca.of rfl rfl (s_aload_n rfl rfl rfl <| s_iconst rfl rfl <| s_aload_n rfl rfl rfl <| s_iload_n rfl rfl rfl <| s_iload_n rfl rfl rfl <| s_cvC rfl rfl rfl rfl rfl hc rfl (s_iconst rfl rfl (s_ret rfl rfl))), fun _ _ => rfl, fun q => absurd q (by decide)⟩
theorem smm_extend {x1 x2 x3 : Int} (hcl : (k = 0 ∧ Ca 60 mX11_extend [vR (some (21, 0, 31)), vI x1, vI x2, vI x3] (I, S) (.inl (some (vI v))) (J, S')) ∨ (∃ e, k = ecI e ∧ k ≠ 0 ∧ Ca 60 mX11_extend [vR (some (21, 0, 31)), vI x1, vI x2, vI x3] (I, S) (.inr e) (J, S'))) : ∃ J1, Ca 61 mL_extend [vR (some (21, 0, 31)), vI x1, vI x2, vI x3, vR (some (2, 1, 191))] (I, S) (.inl (some (vI k))) (J1, S') ∧ (∀ a, a ≠ 191 → J1 a = J a) ∧ (k = 0 → J1 191 0 = p_i2l v) := by
  rcases hcl with ⟨k0, hc⟩ | ⟨e, ke, kn, hc⟩
  · subst k0
    exact ⟨up2 J 191 0 (p_i2l v), Ca.of rfl rfl (b_L_extend_0 hc (b_L_extend_10 (by decide) b_L_extend_19)), fun a ha => funext (fun j => up2_a _ ha), fun _ => up2_same _ _ _ _⟩
  · have ee := ecI_e (by rw [← ke]; exact kn)
    subst ee
    have kv : k = 1 := by rw [ke]; rfl
    subst kv
    exact ⟨J, Ca.of rfl rfl (s_aload rfl rfl rfl <| s_iconst rfl rfl <| s_aload_n rfl rfl rfl <| s_iload_n rfl rfl rfl <| s_iload_n rfl rfl rfl <| s_iload_n rfl rfl rfl <| s_cvC rfl rfl rfl rfl rfl hc rfl (s_iconst rfl rfl (s_ret rfl rfl))), fun _ _ => rfl, fun q => absurd q (by decide)⟩
theorem smm_runs {x1 x2 x3 x4 : Int} (hcl : (k = 0 ∧ Ca 60 mX11_runs [vR (some (21, 0, 31)), vI x1, vI x2, vI x3, vI x4] (I, S) (.inl (some (vI v))) (J, S')) ∨ (∃ e, k = ecI e ∧ k ≠ 0 ∧ Ca 60 mX11_runs [vR (some (21, 0, 31)), vI x1, vI x2, vI x3, vI x4] (I, S) (.inr e) (J, S'))) : ∃ J1, Ca 61 mL_runs [vR (some (21, 0, 31)), vI x1, vI x2, vI x3, vI x4, vR (some (2, 1, 191))] (I, S) (.inl (some (vI k))) (J1, S') ∧ (∀ a, a ≠ 191 → J1 a = J a) ∧ (k = 0 → J1 191 0 = p_i2l v) := by
  rcases hcl with ⟨k0, hc⟩ | ⟨e, ke, kn, hc⟩
  · subst k0
    exact ⟨up2 J 191 0 (p_i2l v), Ca.of rfl rfl (b_L_runs_0 hc (b_L_runs_12 (by decide) b_L_runs_21)), fun a ha => funext (fun j => up2_a _ ha), fun _ => up2_same _ _ _ _⟩
  · have ee := ecI_e (by rw [← ke]; exact kn)
    subst ee
    have kv : k = 1 := by rw [ke]; rfl
    subst kv
    exact ⟨J, Ca.of rfl rfl (s_aload rfl rfl rfl <| s_iconst rfl rfl <| s_aload_n rfl rfl rfl <| s_iload_n rfl rfl rfl <| s_iload_n rfl rfl rfl <| s_iload_n rfl rfl rfl <| s_iload rfl rfl rfl <| s_cvC rfl rfl rfl rfl rfl hc rfl (s_iconst rfl rfl (s_ret rfl rfl))), fun _ _ => rfl, fun q => absurd q (by decide)⟩
theorem smm_switched {x1 x2 x3 x4 : Int} (hcl : (k = 0 ∧ Ca 60 mX11_switched [vR (some (21, 0, 31)), vI x1, vI x2, vI x3, vI x4] (I, S) (.inl (some (vI v))) (J, S')) ∨ (∃ e, k = ecN e ∧ k ≠ 0 ∧ Ca 60 mX11_switched [vR (some (21, 0, 31)), vI x1, vI x2, vI x3, vI x4] (I, S) (.inr e) (J, S'))) : ∃ J1, Ca 61 mL_switched [vR (some (21, 0, 31)), vI x1, vI x2, vI x3, vI x4, vR (some (2, 1, 191))] (I, S) (.inl (some (vI k))) (J1, S') ∧ (∀ a, a ≠ 191 → J1 a = J a) ∧ (k = 0 → J1 191 0 = p_i2l v) := by
  rcases hcl with ⟨k0, hc⟩ | ⟨e, ke, kn, hc⟩
  · subst k0
    exact ⟨up2 J 191 0 (p_i2l v), Ca.of rfl rfl (b_L_switched_0 hc (b_L_switched_12 (by decide) b_L_switched_25)), fun a ha => funext (fun j => up2_a _ ha), fun _ => up2_same _ _ _ _⟩
  · rcases ecN_e (by rw [← ke]; exact kn) with ee | ee
    · subst ee
      have kv : k = 1 := by rw [ke]; rfl
      subst kv
      exact ⟨J, Ca.of rfl rfl (s_aload rfl rfl rfl <| s_iconst rfl rfl <| s_aload_n rfl rfl rfl <| s_iload_n rfl rfl rfl <| s_iload_n rfl rfl rfl <| s_iload_n rfl rfl rfl <| s_iload rfl rfl rfl <| s_cvC rfl rfl rfl rfl rfl hc rfl (s_iconst rfl rfl (s_ret rfl rfl))), fun _ _ => rfl, fun q => absurd q (by decide)⟩
    · subst ee
      have kv : k = 2 := by rw [ke]; rfl
      subst kv
      exact ⟨J, Ca.of rfl rfl (s_aload rfl rfl rfl <| s_iconst rfl rfl <| s_aload_n rfl rfl rfl <| s_iload_n rfl rfl rfl <| s_iload_n rfl rfl rfl <| s_iload_n rfl rfl rfl <| s_iload rfl rfl rfl <| s_cvC rfl rfl rfl rfl rfl hc rfl (s_iconst rfl rfl (s_ret rfl rfl))), fun _ _ => rfl, fun q => absurd q (by decide)⟩
theorem smm_set {x1 x2 x3 : Int} (hcl : (k = 0 ∧ Ca 60 mX11_set [vR (some (21, 0, 31)), vI x1, vI x2, vI x3] (I, S) (.inl (some (vI v))) (J, S')) ∨ (∃ e, k = ecI e ∧ k ≠ 0 ∧ Ca 60 mX11_set [vR (some (21, 0, 31)), vI x1, vI x2, vI x3] (I, S) (.inr e) (J, S'))) : ∃ J1, Ca 61 mL_set [vR (some (21, 0, 31)), vI x1, vI x2, vI x3, vR (some (2, 1, 191))] (I, S) (.inl (some (vI k))) (J1, S') ∧ (∀ a, a ≠ 191 → J1 a = J a) ∧ (k = 0 → J1 191 0 = p_i2l v) := by
  rcases hcl with ⟨k0, hc⟩ | ⟨e, ke, kn, hc⟩
  · subst k0
    exact ⟨up2 J 191 0 (p_i2l v), Ca.of rfl rfl (b_L_set_0 hc (b_L_set_10 (by decide) b_L_set_19)), fun a ha => funext (fun j => up2_a _ ha), fun _ => up2_same _ _ _ _⟩
  · have ee := ecI_e (by rw [← ke]; exact kn)
    subst ee
    have kv : k = 1 := by rw [ke]; rfl
    subst kv
    exact ⟨J, Ca.of rfl rfl (s_aload rfl rfl rfl <| s_iconst rfl rfl <| s_aload_n rfl rfl rfl <| s_iload_n rfl rfl rfl <| s_iload_n rfl rfl rfl <| s_iload_n rfl rfl rfl <| s_cvC rfl rfl rfl rfl rfl hc rfl (s_iconst rfl rfl (s_ret rfl rfl))), fun _ _ => rfl, fun q => absurd q (by decide)⟩
theorem smm_sends {x1 x2 x3 x4 : Int} (hcl : (k = 0 ∧ Ca 60 mX11_sends [vR (some (21, 0, 31)), vI x1, vI x2, vI x3, vI x4] (I, S) (.inl (some (vI v))) (J, S')) ∨ (∃ e, k = ecA e ∧ k ≠ 0 ∧ Ca 60 mX11_sends [vR (some (21, 0, 31)), vI x1, vI x2, vI x3, vI x4] (I, S) (.inr e) (J, S'))) : ∃ J1, Ca 61 mL_sends [vR (some (21, 0, 31)), vI x1, vI x2, vI x3, vI x4, vR (some (2, 1, 191))] (I, S) (.inl (some (vI k))) (J1, S') ∧ (∀ a, a ≠ 191 → J1 a = J a) ∧ (k = 0 → J1 191 0 = p_i2l v) := by
  rcases hcl with ⟨k0, hc⟩ | ⟨e, ke, kn, hc⟩
  · subst k0
    exact ⟨up2 J 191 0 (p_i2l v), Ca.of rfl rfl (b_L_sends_0 hc (b_L_sends_12 (by decide) b_L_sends_21)), fun a ha => funext (fun j => up2_a _ ha), fun _ => up2_same _ _ _ _⟩
  · have ee := ecA_e (by rw [← ke]; exact kn)
    subst ee
    have kv : k = 1 := by rw [ke]; rfl
    subst kv
    exact ⟨J, Ca.of rfl rfl (s_aload rfl rfl rfl <| s_iconst rfl rfl <| s_aload_n rfl rfl rfl <| s_iload_n rfl rfl rfl <| s_iload_n rfl rfl rfl <| s_iload_n rfl rfl rfl <| s_iload rfl rfl rfl <| s_cvC rfl rfl rfl rfl rfl hc rfl (s_iconst rfl rfl (s_ret rfl rfl))), fun _ _ => rfl, fun q => absurd q (by decide)⟩
theorem smm_hub {x1 x2 x3 : Int} (hcl : (k = 0 ∧ Ca 60 mX11_hub [vR (some (21, 0, 31)), vI x1, vI x2, vI x3] (I, S) (.inl (some (vI v))) (J, S')) ∨ (∃ e, k = ecN e ∧ k ≠ 0 ∧ Ca 60 mX11_hub [vR (some (21, 0, 31)), vI x1, vI x2, vI x3] (I, S) (.inr e) (J, S'))) : ∃ J1, Ca 61 mL_hub [vR (some (21, 0, 31)), vI x1, vI x2, vI x3, vR (some (2, 1, 191))] (I, S) (.inl (some (vI k))) (J1, S') ∧ (∀ a, a ≠ 191 → J1 a = J a) ∧ (k = 0 → J1 191 0 = p_i2l v) := by
  rcases hcl with ⟨k0, hc⟩ | ⟨e, ke, kn, hc⟩
  · subst k0
    exact ⟨up2 J 191 0 (p_i2l v), Ca.of rfl rfl (b_L_hub_0 hc (b_L_hub_10 (by decide) b_L_hub_23)), fun a ha => funext (fun j => up2_a _ ha), fun _ => up2_same _ _ _ _⟩
  · rcases ecN_e (by rw [← ke]; exact kn) with ee | ee
    · subst ee
      have kv : k = 1 := by rw [ke]; rfl
      subst kv
      exact ⟨J, Ca.of rfl rfl (s_aload rfl rfl rfl <| s_iconst rfl rfl <| s_aload_n rfl rfl rfl <| s_iload_n rfl rfl rfl <| s_iload_n rfl rfl rfl <| s_iload_n rfl rfl rfl <| s_cvC rfl rfl rfl rfl rfl hc rfl (s_iconst rfl rfl (s_ret rfl rfl))), fun _ _ => rfl, fun q => absurd q (by decide)⟩
    · subst ee
      have kv : k = 2 := by rw [ke]; rfl
      subst kv
      exact ⟨J, Ca.of rfl rfl (s_aload rfl rfl rfl <| s_iconst rfl rfl <| s_aload_n rfl rfl rfl <| s_iload_n rfl rfl rfl <| s_iload_n rfl rfl rfl <| s_iload_n rfl rfl rfl <| s_cvC rfl rfl rfl rfl rfl hc rfl (s_iconst rfl rfl (s_ret rfl rfl))), fun _ _ => rfl, fun q => absurd q (by decide)⟩
theorem smm_cases {x1 x2 : Int} (hcl : (k = 0 ∧ Ca 60 mX11_cases [vR (some (21, 0, 31)), vI x1, vI x2] (I, S) (.inl (some (vI v))) (J, S')) ∨ (∃ e, k = ecN e ∧ k ≠ 0 ∧ Ca 60 mX11_cases [vR (some (21, 0, 31)), vI x1, vI x2] (I, S) (.inr e) (J, S'))) : ∃ J1, Ca 61 mL_cases [vR (some (21, 0, 31)), vI x1, vI x2, vR (some (2, 1, 191))] (I, S) (.inl (some (vI k))) (J1, S') ∧ (∀ a, a ≠ 191 → J1 a = J a) ∧ (k = 0 → J1 191 0 = p_i2l v) := by
  rcases hcl with ⟨k0, hc⟩ | ⟨e, ke, kn, hc⟩
  · subst k0
    exact ⟨up2 J 191 0 (p_i2l v), Ca.of rfl rfl (b_L_cases_0 hc (b_L_cases_8 (by decide) b_L_cases_21)), fun a ha => funext (fun j => up2_a _ ha), fun _ => up2_same _ _ _ _⟩
  · rcases ecN_e (by rw [← ke]; exact kn) with ee | ee
    · subst ee
      have kv : k = 1 := by rw [ke]; rfl
      subst kv
      exact ⟨J, Ca.of rfl rfl (s_aload_n rfl rfl rfl <| s_iconst rfl rfl <| s_aload_n rfl rfl rfl <| s_iload_n rfl rfl rfl <| s_iload_n rfl rfl rfl <| s_cvC rfl rfl rfl rfl rfl hc rfl (s_iconst rfl rfl (s_ret rfl rfl))), fun _ _ => rfl, fun q => absurd q (by decide)⟩
    · subst ee
      have kv : k = 2 := by rw [ke]; rfl
      subst kv
      exact ⟨J, Ca.of rfl rfl (s_aload_n rfl rfl rfl <| s_iconst rfl rfl <| s_aload_n rfl rfl rfl <| s_iload_n rfl rfl rfl <| s_iload_n rfl rfl rfl <| s_cvC rfl rfl rfl rfl rfl hc rfl (s_iconst rfl rfl (s_ret rfl rfl))), fun _ _ => rfl, fun q => absurd q (by decide)⟩
theorem smm_spot {x1 x2 : Int} (hcl : (k = 0 ∧ Ca 60 mX11_spot [vR (some (21, 0, 31)), vI x1, vI x2] (I, S) (.inl (some (vI v))) (J, S')) ∨ (∃ e, k = ecI e ∧ k ≠ 0 ∧ Ca 60 mX11_spot [vR (some (21, 0, 31)), vI x1, vI x2] (I, S) (.inr e) (J, S'))) : ∃ J1, Ca 61 mL_spot [vR (some (21, 0, 31)), vI x1, vI x2, vR (some (2, 1, 191))] (I, S) (.inl (some (vI k))) (J1, S') ∧ (∀ a, a ≠ 191 → J1 a = J a) ∧ (k = 0 → J1 191 0 = p_i2l v) := by
  rcases hcl with ⟨k0, hc⟩ | ⟨e, ke, kn, hc⟩
  · subst k0
    exact ⟨up2 J 191 0 (p_i2l v), Ca.of rfl rfl (b_L_spot_0 hc (b_L_spot_8 (by decide) b_L_spot_17)), fun a ha => funext (fun j => up2_a _ ha), fun _ => up2_same _ _ _ _⟩
  · have ee := ecI_e (by rw [← ke]; exact kn)
    subst ee
    have kv : k = 1 := by rw [ke]; rfl
    subst kv
    exact ⟨J, Ca.of rfl rfl (s_aload_n rfl rfl rfl <| s_iconst rfl rfl <| s_aload_n rfl rfl rfl <| s_iload_n rfl rfl rfl <| s_iload_n rfl rfl rfl <| s_cvC rfl rfl rfl rfl rfl hc rfl (s_iconst rfl rfl (s_ret rfl rfl))), fun _ _ => rfl, fun q => absurd q (by decide)⟩
theorem smm_scaled {x1 x2 : Int} (hcl : (k = 0 ∧ Ca 60 mX11_scaled [vR (some (21, 0, 31)), vI x1, vI x2] (I, S) (.inl (some (vI v))) (J, S')) ∨ (∃ e, k = ecR e ∧ k ≠ 0 ∧ Ca 60 mX11_scaled [vR (some (21, 0, 31)), vI x1, vI x2] (I, S) (.inr e) (J, S'))) : ∃ J1, Ca 61 mL_scaled [vR (some (21, 0, 31)), vI x1, vI x2, vR (some (2, 1, 191))] (I, S) (.inl (some (vI k))) (J1, S') ∧ (∀ a, a ≠ 191 → J1 a = J a) ∧ (k = 0 → J1 191 0 = p_i2l v) := by
  rcases hcl with ⟨k0, hc⟩ | ⟨e, ke, kn, hc⟩
  · subst k0
    exact ⟨up2 J 191 0 (p_i2l v), Ca.of rfl rfl (b_L_scaled_0 hc (b_L_scaled_8 (by decide) b_L_scaled_21)), fun a ha => funext (fun j => up2_a _ ha), fun _ => up2_same _ _ _ _⟩
  · rcases ecR_e (by rw [← ke]; exact kn) with ee | ee
    · subst ee
      have kv : k = 1 := by rw [ke]; rfl
      subst kv
      exact ⟨J, Ca.of rfl rfl (s_aload_n rfl rfl rfl <| s_iconst rfl rfl <| s_aload_n rfl rfl rfl <| s_iload_n rfl rfl rfl <| s_iload_n rfl rfl rfl <| s_cvC rfl rfl rfl rfl rfl hc rfl (s_iconst rfl rfl (s_ret rfl rfl))), fun _ _ => rfl, fun q => absurd q (by decide)⟩
    · subst ee
      have kv : k = 2 := by rw [ke]; rfl
      subst kv
      exact ⟨J, Ca.of rfl rfl (s_aload_n rfl rfl rfl <| s_iconst rfl rfl <| s_aload_n rfl rfl rfl <| s_iload_n rfl rfl rfl <| s_iload_n rfl rfl rfl <| s_cvC rfl rfl rfl rfl rfl hc rfl (s_iconst rfl rfl (s_ret rfl rfl))), fun _ _ => rfl, fun q => absurd q (by decide)⟩
theorem smm_rule {x1 x2 : Int} (hcl : (k = 0 ∧ Ca 60 mX11_rule [vR (some (21, 0, 31)), vI x1, vI x2] (I, S) (.inl (some (vI v))) (J, S')) ∨ (∃ e, k = ecI e ∧ k ≠ 0 ∧ Ca 60 mX11_rule [vR (some (21, 0, 31)), vI x1, vI x2] (I, S) (.inr e) (J, S'))) : ∃ J1, Ca 61 mL_rule [vR (some (21, 0, 31)), vI x1, vI x2, vR (some (2, 1, 191))] (I, S) (.inl (some (vI k))) (J1, S') ∧ (∀ a, a ≠ 191 → J1 a = J a) ∧ (k = 0 → J1 191 0 = p_i2l v) := by
  rcases hcl with ⟨k0, hc⟩ | ⟨e, ke, kn, hc⟩
  · subst k0
    exact ⟨up2 J 191 0 (p_i2l v), Ca.of rfl rfl (b_L_rule_0 hc (b_L_rule_8 (by decide) b_L_rule_17)), fun a ha => funext (fun j => up2_a _ ha), fun _ => up2_same _ _ _ _⟩
  · have ee := ecI_e (by rw [← ke]; exact kn)
    subst ee
    have kv : k = 1 := by rw [ke]; rfl
    subst kv
    exact ⟨J, Ca.of rfl rfl (s_aload_n rfl rfl rfl <| s_iconst rfl rfl <| s_aload_n rfl rfl rfl <| s_iload_n rfl rfl rfl <| s_iload_n rfl rfl rfl <| s_cvC rfl rfl rfl rfl rfl hc rfl (s_iconst rfl rfl (s_ret rfl rfl))), fun _ _ => rfl, fun q => absurd q (by decide)⟩
theorem smm_paint {x1 x2 : Int} (hcl : (k = 0 ∧ Ca 60 mX11_paint [vR (some (21, 0, 31)), vI x1, vI x2] (I, S) (.inl (some (vI v))) (J, S')) ∨ (∃ e, k = ecI e ∧ k ≠ 0 ∧ Ca 60 mX11_paint [vR (some (21, 0, 31)), vI x1, vI x2] (I, S) (.inr e) (J, S'))) : ∃ J1, Ca 61 mL_paint [vR (some (21, 0, 31)), vI x1, vI x2, vR (some (2, 1, 191))] (I, S) (.inl (some (vI k))) (J1, S') ∧ (∀ a, a ≠ 191 → J1 a = J a) ∧ (k = 0 → J1 191 0 = p_i2l v) := by
  rcases hcl with ⟨k0, hc⟩ | ⟨e, ke, kn, hc⟩
  · subst k0
    exact ⟨up2 J 191 0 (p_i2l v), Ca.of rfl rfl (b_L_paint_0 hc (b_L_paint_8 (by decide) b_L_paint_17)), fun a ha => funext (fun j => up2_a _ ha), fun _ => up2_same _ _ _ _⟩
  · have ee := ecI_e (by rw [← ke]; exact kn)
    subst ee
    have kv : k = 1 := by rw [ke]; rfl
    subst kv
    exact ⟨J, Ca.of rfl rfl (s_aload_n rfl rfl rfl <| s_iconst rfl rfl <| s_aload_n rfl rfl rfl <| s_iload_n rfl rfl rfl <| s_iload_n rfl rfl rfl <| s_cvC rfl rfl rfl rfl rfl hc rfl (s_iconst rfl rfl (s_ret rfl rfl))), fun _ _ => rfl, fun q => absurd q (by decide)⟩
theorem smm_wash {x1 : Int} (hcl : (k = 0 ∧ Ca 60 mX11_wash [vR (some (21, 0, 31)), vI x1] (I, S) (.inl (some (vI v))) (J, S')) ∨ (∃ e, k = ecI e ∧ k ≠ 0 ∧ Ca 60 mX11_wash [vR (some (21, 0, 31)), vI x1] (I, S) (.inr e) (J, S'))) : ∃ J1, Ca 61 mL_wash [vR (some (21, 0, 31)), vI x1, vR (some (2, 1, 191))] (I, S) (.inl (some (vI k))) (J1, S') ∧ (∀ a, a ≠ 191 → J1 a = J a) ∧ (k = 0 → J1 191 0 = p_i2l v) := by
  rcases hcl with ⟨k0, hc⟩ | ⟨e, ke, kn, hc⟩
  · subst k0
    exact ⟨up2 J 191 0 (p_i2l v), Ca.of rfl rfl (b_L_wash_0 hc (b_L_wash_7 (by decide) b_L_wash_15)), fun a ha => funext (fun j => up2_a _ ha), fun _ => up2_same _ _ _ _⟩
  · have ee := ecI_e (by rw [← ke]; exact kn)
    subst ee
    have kv : k = 1 := by rw [ke]; rfl
    subst kv
    exact ⟨J, Ca.of rfl rfl (s_aload_n rfl rfl rfl <| s_iconst rfl rfl <| s_aload_n rfl rfl rfl <| s_iload_n rfl rfl rfl <| s_cvC rfl rfl rfl rfl rfl hc rfl (s_iconst rfl rfl (s_ret rfl rfl))), fun _ _ => rfl, fun q => absurd q (by decide)⟩
theorem smm_swap {x1 x2 : Int} (hcl : (k = 0 ∧ Ca 60 mX11_swap [vR (some (21, 0, 31)), vI x1, vI x2] (I, S) (.inl (some (vI v))) (J, S')) ∨ (∃ e, k = ecI e ∧ k ≠ 0 ∧ Ca 60 mX11_swap [vR (some (21, 0, 31)), vI x1, vI x2] (I, S) (.inr e) (J, S'))) : ∃ J1, Ca 61 mL_swap [vR (some (21, 0, 31)), vI x1, vI x2, vR (some (2, 1, 191))] (I, S) (.inl (some (vI k))) (J1, S') ∧ (∀ a, a ≠ 191 → J1 a = J a) ∧ (k = 0 → J1 191 0 = p_i2l v) := by
  rcases hcl with ⟨k0, hc⟩ | ⟨e, ke, kn, hc⟩
  · subst k0
    exact ⟨up2 J 191 0 (p_i2l v), Ca.of rfl rfl (b_L_swap_0 hc (b_L_swap_8 (by decide) b_L_swap_17)), fun a ha => funext (fun j => up2_a _ ha), fun _ => up2_same _ _ _ _⟩
  · have ee := ecI_e (by rw [← ke]; exact kn)
    subst ee
    have kv : k = 1 := by rw [ke]; rfl
    subst kv
    exact ⟨J, Ca.of rfl rfl (s_aload_n rfl rfl rfl <| s_iconst rfl rfl <| s_aload_n rfl rfl rfl <| s_iload_n rfl rfl rfl <| s_iload_n rfl rfl rfl <| s_cvC rfl rfl rfl rfl rfl hc rfl (s_iconst rfl rfl (s_ret rfl rfl))), fun _ _ => rfl, fun q => absurd q (by decide)⟩
theorem smm_tune {x1 x2 : Int} (hcl : (k = 0 ∧ Ca 60 mX11_tune [vR (some (21, 0, 31)), vI x1, vI x2] (I, S) (.inl (some (vI v))) (J, S')) ∨ (∃ e, k = ecI e ∧ k ≠ 0 ∧ Ca 60 mX11_tune [vR (some (21, 0, 31)), vI x1, vI x2] (I, S) (.inr e) (J, S'))) : ∃ J1, Ca 61 mL_tune [vR (some (21, 0, 31)), vI x1, vI x2, vR (some (2, 1, 191))] (I, S) (.inl (some (vI k))) (J1, S') ∧ (∀ a, a ≠ 191 → J1 a = J a) ∧ (k = 0 → J1 191 0 = p_i2l v) := by
  rcases hcl with ⟨k0, hc⟩ | ⟨e, ke, kn, hc⟩
  · subst k0
    exact ⟨up2 J 191 0 (p_i2l v), Ca.of rfl rfl (b_L_tune_0 hc (b_L_tune_8 (by decide) b_L_tune_17)), fun a ha => funext (fun j => up2_a _ ha), fun _ => up2_same _ _ _ _⟩
  · have ee := ecI_e (by rw [← ke]; exact kn)
    subst ee
    have kv : k = 1 := by rw [ke]; rfl
    subst kv
    exact ⟨J, Ca.of rfl rfl (s_aload_n rfl rfl rfl <| s_iconst rfl rfl <| s_aload_n rfl rfl rfl <| s_iload_n rfl rfl rfl <| s_iload_n rfl rfl rfl <| s_cvC rfl rfl rfl rfl rfl hc rfl (s_iconst rfl rfl (s_ret rfl rfl))), fun _ _ => rfl, fun q => absurd q (by decide)⟩
theorem smm_chain {x1 x2 : Int} (hcl : (k = 0 ∧ Ca 60 mX11_chain [vR (some (21, 0, 31)), vI x1, vI x2] (I, S) (.inl (some (vI v))) (J, S')) ∨ (∃ e, k = ecN e ∧ k ≠ 0 ∧ Ca 60 mX11_chain [vR (some (21, 0, 31)), vI x1, vI x2] (I, S) (.inr e) (J, S'))) : ∃ J1, Ca 61 mL_chain [vR (some (21, 0, 31)), vI x1, vI x2, vR (some (2, 1, 191))] (I, S) (.inl (some (vI k))) (J1, S') ∧ (∀ a, a ≠ 191 → J1 a = J a) ∧ (k = 0 → J1 191 0 = p_i2l v) := by
  rcases hcl with ⟨k0, hc⟩ | ⟨e, ke, kn, hc⟩
  · subst k0
    exact ⟨up2 J 191 0 (p_i2l v), Ca.of rfl rfl (b_L_chain_0 hc (b_L_chain_8 (by decide) b_L_chain_21)), fun a ha => funext (fun j => up2_a _ ha), fun _ => up2_same _ _ _ _⟩
  · rcases ecN_e (by rw [← ke]; exact kn) with ee | ee
    · subst ee
      have kv : k = 1 := by rw [ke]; rfl
      subst kv
      exact ⟨J, Ca.of rfl rfl (s_aload_n rfl rfl rfl <| s_iconst rfl rfl <| s_aload_n rfl rfl rfl <| s_iload_n rfl rfl rfl <| s_iload_n rfl rfl rfl <| s_cvC rfl rfl rfl rfl rfl hc rfl (s_iconst rfl rfl (s_ret rfl rfl))), fun _ _ => rfl, fun q => absurd q (by decide)⟩
    · subst ee
      have kv : k = 2 := by rw [ke]; rfl
      subst kv
      exact ⟨J, Ca.of rfl rfl (s_aload_n rfl rfl rfl <| s_iconst rfl rfl <| s_aload_n rfl rfl rfl <| s_iload_n rfl rfl rfl <| s_iload_n rfl rfl rfl <| s_cvC rfl rfl rfl rfl rfl hc rfl (s_iconst rfl rfl (s_ret rfl rfl))), fun _ _ => rfl, fun q => absurd q (by decide)⟩
theorem smm_solve {x1 : Int} (hcl : (k = 0 ∧ Ca 60 mX11_solve [vR (some (21, 0, 31)), vI x1] (I, S) (.inl (some (vI v))) (J, S')) ∨ (∃ e, k = ecI e ∧ k ≠ 0 ∧ Ca 60 mX11_solve [vR (some (21, 0, 31)), vI x1] (I, S) (.inr e) (J, S'))) : ∃ J1, Ca 61 mL_solve [vR (some (21, 0, 31)), vI x1, vR (some (2, 1, 191))] (I, S) (.inl (some (vI k))) (J1, S') ∧ (∀ a, a ≠ 191 → J1 a = J a) ∧ (k = 0 → J1 191 0 = p_i2l v) := by
  rcases hcl with ⟨k0, hc⟩ | ⟨e, ke, kn, hc⟩
  · subst k0
    exact ⟨up2 J 191 0 (p_i2l v), Ca.of rfl rfl (b_L_solve_0 hc (b_L_solve_7 (by decide) b_L_solve_15)), fun a ha => funext (fun j => up2_a _ ha), fun _ => up2_same _ _ _ _⟩
  · have ee := ecI_e (by rw [← ke]; exact kn)
    subst ee
    have kv : k = 1 := by rw [ke]; rfl
    subst kv
    exact ⟨J, Ca.of rfl rfl (s_aload_n rfl rfl rfl <| s_iconst rfl rfl <| s_aload_n rfl rfl rfl <| s_iload_n rfl rfl rfl <| s_cvC rfl rfl rfl rfl rfl hc rfl (s_iconst rfl rfl (s_ret rfl rfl))), fun _ _ => rfl, fun q => absurd q (by decide)⟩
theorem smm_free {x1 x2 : Int} (hcl : (k = 0 ∧ Ca 60 mX11_free [vR (some (21, 0, 31)), vI x1, vI x2] (I, S) (.inl (some (vI v))) (J, S')) ∨ (∃ e, k = ecI e ∧ k ≠ 0 ∧ Ca 60 mX11_free [vR (some (21, 0, 31)), vI x1, vI x2] (I, S) (.inr e) (J, S'))) : ∃ J1, Ca 61 mL_free [vR (some (21, 0, 31)), vI x1, vI x2, vR (some (2, 1, 191))] (I, S) (.inl (some (vI k))) (J1, S') ∧ (∀ a, a ≠ 191 → J1 a = J a) ∧ (k = 0 → J1 191 0 = p_i2l v) := by
  rcases hcl with ⟨k0, hc⟩ | ⟨e, ke, kn, hc⟩
  · subst k0
    exact ⟨up2 J 191 0 (p_i2l v), Ca.of rfl rfl (b_L_free_0 hc (b_L_free_8 (by decide) b_L_free_17)), fun a ha => funext (fun j => up2_a _ ha), fun _ => up2_same _ _ _ _⟩
  · have ee := ecI_e (by rw [← ke]; exact kn)
    subst ee
    have kv : k = 1 := by rw [ke]; rfl
    subst kv
    exact ⟨J, Ca.of rfl rfl (s_aload_n rfl rfl rfl <| s_iconst rfl rfl <| s_aload_n rfl rfl rfl <| s_iload_n rfl rfl rfl <| s_iload_n rfl rfl rfl <| s_cvC rfl rfl rfl rfl rfl hc rfl (s_iconst rfl rfl (s_ret rfl rfl))), fun _ _ => rfl, fun q => absurd q (by decide)⟩
theorem smm_play {x1 : Int} (hcl : (k = 0 ∧ Ca 60 mX11_play [vR (some (21, 0, 31)), vI x1] (I, S) (.inl (some (vI v))) (J, S')) ∨ (∃ e, k = ecI e ∧ k ≠ 0 ∧ Ca 60 mX11_play [vR (some (21, 0, 31)), vI x1] (I, S) (.inr e) (J, S'))) : ∃ J1, Ca 61 mL_play [vR (some (21, 0, 31)), vI x1, vR (some (2, 1, 191))] (I, S) (.inl (some (vI k))) (J1, S') ∧ (∀ a, a ≠ 191 → J1 a = J a) ∧ (k = 0 → J1 191 0 = p_i2l v) := by
  rcases hcl with ⟨k0, hc⟩ | ⟨e, ke, kn, hc⟩
  · subst k0
    exact ⟨up2 J 191 0 (p_i2l v), Ca.of rfl rfl (b_L_play_0 hc (b_L_play_7 (by decide) b_L_play_15)), fun a ha => funext (fun j => up2_a _ ha), fun _ => up2_same _ _ _ _⟩
  · have ee := ecI_e (by rw [← ke]; exact kn)
    subst ee
    have kv : k = 1 := by rw [ke]; rfl
    subst kv
    exact ⟨J, Ca.of rfl rfl (s_aload_n rfl rfl rfl <| s_iconst rfl rfl <| s_aload_n rfl rfl rfl <| s_iload_n rfl rfl rfl <| s_cvC rfl rfl rfl rfl rfl hc rfl (s_iconst rfl rfl (s_ret rfl rfl))), fun _ _ => rfl, fun q => absurd q (by decide)⟩
theorem smm_plan {x1 : Int} (hcl : (k = 0 ∧ Ca 60 mX11_plan [vR (some (21, 0, 31)), vI x1] (I, S) (.inl (some (vI v))) (J, S')) ∨ (∃ e, k = ecA e ∧ k ≠ 0 ∧ Ca 60 mX11_plan [vR (some (21, 0, 31)), vI x1] (I, S) (.inr e) (J, S'))) : ∃ J1, Ca 61 mL_plan [vR (some (21, 0, 31)), vI x1, vR (some (2, 1, 191))] (I, S) (.inl (some (vI k))) (J1, S') ∧ (∀ a, a ≠ 191 → J1 a = J a) ∧ (k = 0 → J1 191 0 = p_i2l v) := by
  rcases hcl with ⟨k0, hc⟩ | ⟨e, ke, kn, hc⟩
  · subst k0
    exact ⟨up2 J 191 0 (p_i2l v), Ca.of rfl rfl (b_L_plan_0 hc (b_L_plan_7 (by decide) b_L_plan_15)), fun a ha => funext (fun j => up2_a _ ha), fun _ => up2_same _ _ _ _⟩
  · have ee := ecA_e (by rw [← ke]; exact kn)
    subst ee
    have kv : k = 1 := by rw [ke]; rfl
    subst kv
    exact ⟨J, Ca.of rfl rfl (s_aload_n rfl rfl rfl <| s_iconst rfl rfl <| s_aload_n rfl rfl rfl <| s_iload_n rfl rfl rfl <| s_cvC rfl rfl rfl rfl rfl hc rfl (s_iconst rfl rfl (s_ret rfl rfl))), fun _ _ => rfl, fun q => absurd q (by decide)⟩
theorem smm_planned {x1 : Int} (hcl : (k = 0 ∧ Ca 60 mX11_planned [vR (some (21, 0, 31)), vI x1] (I, S) (.inl (some (vI v))) (J, S')) ∨ (∃ e, k = ecI e ∧ k ≠ 0 ∧ Ca 60 mX11_planned [vR (some (21, 0, 31)), vI x1] (I, S) (.inr e) (J, S'))) : ∃ J1, Ca 61 mL_planned [vR (some (21, 0, 31)), vI x1, vR (some (2, 1, 191))] (I, S) (.inl (some (vI k))) (J1, S') ∧ (∀ a, a ≠ 191 → J1 a = J a) ∧ (k = 0 → J1 191 0 = p_i2l v) := by
  rcases hcl with ⟨k0, hc⟩ | ⟨e, ke, kn, hc⟩
  · subst k0
    exact ⟨up2 J 191 0 (p_i2l v), Ca.of rfl rfl (b_L_planned_0 hc (b_L_planned_7 (by decide) b_L_planned_15)), fun a ha => funext (fun j => up2_a _ ha), fun _ => up2_same _ _ _ _⟩
  · have ee := ecI_e (by rw [← ke]; exact kn)
    subst ee
    have kv : k = 1 := by rw [ke]; rfl
    subst kv
    exact ⟨J, Ca.of rfl rfl (s_aload_n rfl rfl rfl <| s_iconst rfl rfl <| s_aload_n rfl rfl rfl <| s_iload_n rfl rfl rfl <| s_cvC rfl rfl rfl rfl rfl hc rfl (s_iconst rfl rfl (s_ret rfl rfl))), fun _ _ => rfl, fun q => absurd q (by decide)⟩
theorem smm_note {x1 x2 : Int} (hcl : (k = 0 ∧ Ca 60 mX11_note [vR (some (21, 0, 31)), vI x1, vI x2] (I, S) (.inl (some (vI v))) (J, S')) ∨ (∃ e, k = ecI e ∧ k ≠ 0 ∧ Ca 60 mX11_note [vR (some (21, 0, 31)), vI x1, vI x2] (I, S) (.inr e) (J, S'))) : ∃ J1, Ca 61 mL_note [vR (some (21, 0, 31)), vI x1, vI x2, vR (some (2, 1, 191))] (I, S) (.inl (some (vI k))) (J1, S') ∧ (∀ a, a ≠ 191 → J1 a = J a) ∧ (k = 0 → J1 191 0 = p_i2l v) := by
  rcases hcl with ⟨k0, hc⟩ | ⟨e, ke, kn, hc⟩
  · subst k0
    exact ⟨up2 J 191 0 (p_i2l v), Ca.of rfl rfl (b_L_note_0 hc (b_L_note_8 (by decide) b_L_note_17)), fun a ha => funext (fun j => up2_a _ ha), fun _ => up2_same _ _ _ _⟩
  · have ee := ecI_e (by rw [← ke]; exact kn)
    subst ee
    have kv : k = 1 := by rw [ke]; rfl
    subst kv
    exact ⟨J, Ca.of rfl rfl (s_aload_n rfl rfl rfl <| s_iconst rfl rfl <| s_aload_n rfl rfl rfl <| s_iload_n rfl rfl rfl <| s_iload_n rfl rfl rfl <| s_cvC rfl rfl rfl rfl rfl hc rfl (s_iconst rfl rfl (s_ret rfl rfl))), fun _ _ => rfl, fun q => absurd q (by decide)⟩
theorem smm_meant {x1 : Int} (hcl : (k = 0 ∧ Ca 60 mX11_meant [vR (some (21, 0, 31)), vI x1] (I, S) (.inl (some (vI v))) (J, S')) ∨ (∃ e, k = ecI e ∧ k ≠ 0 ∧ Ca 60 mX11_meant [vR (some (21, 0, 31)), vI x1] (I, S) (.inr e) (J, S'))) : ∃ J1, Ca 61 mL_meant [vR (some (21, 0, 31)), vI x1, vR (some (2, 1, 191))] (I, S) (.inl (some (vI k))) (J1, S') ∧ (∀ a, a ≠ 191 → J1 a = J a) ∧ (k = 0 → J1 191 0 = p_i2l v) := by
  rcases hcl with ⟨k0, hc⟩ | ⟨e, ke, kn, hc⟩
  · subst k0
    exact ⟨up2 J 191 0 (p_i2l v), Ca.of rfl rfl (b_L_meant_0 hc (b_L_meant_7 (by decide) b_L_meant_15)), fun a ha => funext (fun j => up2_a _ ha), fun _ => up2_same _ _ _ _⟩
  · have ee := ecI_e (by rw [← ke]; exact kn)
    subst ee
    have kv : k = 1 := by rw [ke]; rfl
    subst kv
    exact ⟨J, Ca.of rfl rfl (s_aload_n rfl rfl rfl <| s_iconst rfl rfl <| s_aload_n rfl rfl rfl <| s_iload_n rfl rfl rfl <| s_cvC rfl rfl rfl rfl rfl hc rfl (s_iconst rfl rfl (s_ret rfl rfl))), fun _ _ => rfl, fun q => absurd q (by decide)⟩
theorem smm_years {x1 x2 x3 : Int} (hcl : (k = 0 ∧ Ca 60 mX11_years [vR (some (21, 0, 31)), vI x1, vI x2, vI x3] (I, S) (.inl (some (vI v))) (J, S')) ∨ (∃ e, k = ecN e ∧ k ≠ 0 ∧ Ca 60 mX11_years [vR (some (21, 0, 31)), vI x1, vI x2, vI x3] (I, S) (.inr e) (J, S'))) : ∃ J1, Ca 61 mL_years [vR (some (21, 0, 31)), vI x1, vI x2, vI x3, vR (some (2, 1, 191))] (I, S) (.inl (some (vI k))) (J1, S') ∧ (∀ a, a ≠ 191 → J1 a = J a) ∧ (k = 0 → J1 191 0 = p_i2l v) := by
  rcases hcl with ⟨k0, hc⟩ | ⟨e, ke, kn, hc⟩
  · subst k0
    exact ⟨up2 J 191 0 (p_i2l v), Ca.of rfl rfl (b_L_years_0 hc (b_L_years_10 (by decide) b_L_years_23)), fun a ha => funext (fun j => up2_a _ ha), fun _ => up2_same _ _ _ _⟩
  · rcases ecN_e (by rw [← ke]; exact kn) with ee | ee
    · subst ee
      have kv : k = 1 := by rw [ke]; rfl
      subst kv
      exact ⟨J, Ca.of rfl rfl (s_aload rfl rfl rfl <| s_iconst rfl rfl <| s_aload_n rfl rfl rfl <| s_iload_n rfl rfl rfl <| s_iload_n rfl rfl rfl <| s_iload_n rfl rfl rfl <| s_cvC rfl rfl rfl rfl rfl hc rfl (s_iconst rfl rfl (s_ret rfl rfl))), fun _ _ => rfl, fun q => absurd q (by decide)⟩
    · subst ee
      have kv : k = 2 := by rw [ke]; rfl
      subst kv
      exact ⟨J, Ca.of rfl rfl (s_aload rfl rfl rfl <| s_iconst rfl rfl <| s_aload_n rfl rfl rfl <| s_iload_n rfl rfl rfl <| s_iload_n rfl rfl rfl <| s_iload_n rfl rfl rfl <| s_cvC rfl rfl rfl rfl rfl hc rfl (s_iconst rfl rfl (s_ret rfl rfl))), fun _ _ => rfl, fun q => absurd q (by decide)⟩
end
end
