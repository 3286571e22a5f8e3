/-! ===== every step but calls and ends ===== -/
noncomputable section
/-- what is known of the method that runs -/
def FX (p : Program) (s : State) (m : MethodId) (args : Array Value) (meth : Method) (c : Code) (mi : Nat × Nat) (inf : PInf) (own : String) : Prop :=
  pm_inf mi = some inf ∧ pl_at pm_own mi.1 = some own ∧ p.tables.exec = Jvm.exec ∧ c.code = inf.2.1 ∧ c.maxLocals = inf.2.2.1 ∧ meth.sig.returnType = inf.2.2.2.1 ∧ s.vm.findClass own = some m.cls ∧ (∀ w ∈ wsG, w.before args s = true) ∧ meth.locks = false ∧ meth.name = inf.1.name ∧
    c.exceptionTable.toList = (match inf.2.2.2.2.2.2 with
      | none => []
      | some hh => tableOf hh)
def LDC (X : RX) (s : State) (own : String) (ix : Nat) (v : PV) : Prop :=
  (∃ x, v = vI x ∧ cnI x ∧ Cond.constant own ix (p_I x) ∈ wsG) ∨ (∃ n a tx, v = vR (some (6, n, a)) ∧ a < 31 ∧ X.2.2.2 a = (6, n) ∧ vk_R own ix tx (X.1 a) s)
def GST (X : RX) (base : Nat) (s : State) (own : String) (ix : Nat) (v : PV) : Prop :=
  ∃ C n d, (∀ ad : Nat → Nat, (∀ i, i < 31 → ad i = X.1 i) → va_Z C n d (tv ad v) (AB base) s s.heap) ∧ Cond.fieldLink own ix C n d ∈ wsG ∧ ((∃ x, v = vI x ∧ cnI x) ∨ ∃ kd n' a, v = vR (some (kd, n', a)) ∧ a < 31 ∧ X.2.2.2 a = (kd, n') ∧ 5 ≤ kd ∧ kd ≤ 8)
def xsup : List String := ["java/lang/RuntimeException", "java/lang/Exception", "java/lang/Throwable"]
/-- Strings as receivers; links of constructors among nest mates; classes of exceptions -/
def S2 (X : RX) (base : Nat) (s : State) : Prop :=
  (∀ a, a < 31 → (X.2.2.2 a).1 = 6 → va_O "java/lang/String" (X.1 a) (AB base) s s.heap) ∧
  (∀ oi own ix k a b rk inf, pl_at pm_own oi = some own → pm_mth oi ix = some (k, a, b, rk) → (k = 4 ∨ (k = 1 ∧ rk = 1)) → pm_inf (a, b) = some inf → ∃ host, va_Nw (.methodLinkNest own ix inf.1 host) s) ∧
  (∀ k E, pl_at pm_exs k = some E → va_Nw (.castable E E) s ∧ ∀ Y ∈ xsup, va_Nw (.declares (Bundle.init0 Y)) s) ∧ (∀ k k' E E', k ≠ k' → pl_at pm_exs k = some E → pl_at pm_exs k' = some E' → va_Nc E E' s)
/-- what is known of the start of the method that runs, by the law's own start -/
def SX (X : RX) (D : va_G) (cA : Nat → ClassId) (base : Nat) (s0 s : State) : Prop :=
  okS s0 base s ∧ va_K D vwCl (tys5 cA) s ∧ STR X base s ∧ ROT X base s ∧ va_AO "MapPieces$Piece" s ∧ va_AO "MapPieces$Ring" s ∧
    vx_Zq Bundle.tN "UNASSIGNED_STACK" Bundle.steD (AB base) s s.heap ∧ vx_Zq Bundle.tN "SUPPRESSED_SENTINEL" Bundle.listD (AB base) s s.heap ∧
    (∀ oi own ix v, pl_at pm_own oi = some own → pm_cst oi ix = some v → LDC X s own ix v) ∧ (∀ oi own ix v, pl_at pm_own oi = some own → pm_gst oi ix = some v → GST X base s own ix v) ∧ S2 X base s
/-- what the tables say, by program -/
def TB : Prop :=
  (∀ mi inf pc i n, pm_inf mi = some inf → pm_code mi pc = some (i, n) → decode inf.2.1 pc = .ok (i, n)) ∧
  (∀ oi own ix ci k t fin, pl_at pm_own oi = some own → pm_fld oi ix = some (ci, k, t, fin) → FLD wsG own ix ci k t fin) ∧
  (∀ mi inf own, pm_inf mi = some inf → pl_at pm_own mi.1 = some own → mi.2 = 0 → ∀ ci, (pl_at pm_oci mi.1).getD 99 = ci → ∀ C T N, vwCl[ci]? = some (C, T, N) → inf.1.name = "<init>" ∧ C = own) ∧
  (∀ oi own ix v, pl_at pm_own oi = some own → pm_cstw oi ix = some v → ∃ x, v = vI x ∧ cnI x ∧ Cond.constant own ix (p_I x) ∈ wsG) ∧
  (∀ oi own ix v, pl_at pm_own oi = some own → pm_cst2 oi ix = some v → ∃ x, v = vL x ∧ cnL x ∧ Cond.constantLong own ix (p_L x) ∈ wsG) ∧
  (∀ oi own ix kd, pl_at pm_own oi = some own → pm_newr oi ix = some kd → (kd = 3 ∧ Cond.classLink own ix "MapPieces$Piece" ∈ wsG) ∨ (kd = 4 ∧ Cond.classLink own ix "MapPieces$Ring" ∈ wsG)) ∧
  (∀ oi own ix ci N, pl_at pm_own oi = some own → pm_newc oi ix = some (0, ci, N) → 0 < ci ∧ ∃ C T ty, CLS wsG ci C T N ty ∧ Cond.classLink own ix C ∈ wsG ∧ Cond.instantiable C N ∈ wsG ∧ Cond.initialized C ∈ wsG) ∧
  (Cond.arrayClass .int ∈ wsG ∧ Cond.arrayClass .byte ∈ wsG ∧ Cond.arrayClass .long ∈ wsG)
theorem newa_ok {X : RX} {D : va_G} {cA : Nat → ClassId} {s : State} (hK : va_K D vwCl (tys5 cA) s) {h : PM} (kd : Nat) (ty : FieldType) (hk : (kd = 0 ∧ ty = .int) ∨ (kd = 1 ∧ ty = .byte) ∨ (kd = 2 ∧ ty = .long)) :
    (∀ cA' : ClassId, (ArrOfT s cA' ty ∧ va_RA s cA' ty) → cA' = cA kd) ∧ (∀ (ad : Nat → Nat) (n : Nat) (cA' : ClassId), cA' = cA kd → ∃ a0 : vp_A, cel cA (up1 ad (m_sz h) 0) (m_new h kd n n) (m_sz h) = .inl (cA kd, a0) ∧ (∀ q, cel cA (up1 ad (m_sz h) q) (m_new h kd n n) (m_sz h) = .inl (cA kd, a0)) ∧ ∀ c9 : ClassId, vp_cell c9 a0 = arrV c9 n (fun _ => defaultValue ty)) := by
  rcases hk with ⟨rfl, rfl⟩ | ⟨rfl, rfl⟩ | ⟨rfl, rfl⟩
  · refine ⟨fun c' hc => ?_, fun ad n c' _ => ⟨(n, .inl (fun _ => p_I 0)), ?_, ?_, fun c9 => ?_⟩⟩
    · have h1 : s.vm.findClass ("[" ++ (FieldType.int).toString) = some c' := hc.2
      have h2 : s.vm.findClass ("[" ++ (FieldType.int).toString) = some (cA 0) := (hK.2 0 (cA 0, .int) rfl).2
      exact Option.some.inj (h1.symm.trans h2)
    · rw [cel_i new_kd, new_ln, new_1]
    · intro q; rw [cel_i new_kd, new_ln, new_1]
    · rfl
  · refine ⟨fun c' hc => ?_, fun ad n c' _ => ⟨(n, .inl (fun _ => p_I 0)), ?_, ?_, fun c9 => ?_⟩⟩
    · have h1 : s.vm.findClass ("[" ++ (FieldType.byte).toString) = some c' := hc.2
      have h2 : s.vm.findClass ("[" ++ (FieldType.byte).toString) = some (cA 1) := (hK.2 1 (cA 1, .byte) rfl).2
      exact Option.some.inj (h1.symm.trans h2)
    · rw [cel_b new_kd, new_ln, new_1]
    · intro q; rw [cel_b new_kd, new_ln, new_1]
    · rfl
  · refine ⟨fun c' hc => ?_, fun ad n c' _ => ⟨(n, .inr (.inl (fun _ => p_L 0))), ?_, ?_, fun c9 => ?_⟩⟩
    · have h1 : s.vm.findClass ("[" ++ (FieldType.long).toString) = some c' := hc.2
      have h2 : s.vm.findClass ("[" ++ (FieldType.long).toString) = some (cA 2) := (hK.2 2 (cA 2, .long) rfl).2
      exact Option.some.inj (h1.symm.trans h2)
    · rw [cel_l new_kd, new_ln, new_1]
    · intro q; rw [cel_l new_kd, new_ln, new_1]
    · rfl
section Steps
variable {p : Program} {l : Launch} {e : Env} {R : Room} {s s0 : State} {m : MethodId} {args : Array Value} {below : List Frame} {meth : Method} {c : Code} {Q : State → Prop}
variable {X : RX} {D : va_G} {cA : Nat → ClassId} {base nL c0 k0 cF kF : Nat}
theorem okV_low {h : PM} {ad : Nat → Nat} (hh : okH h) (hr : roS X h ad) {kd n a : Nat} (ha : a < 31) (hx : X.2.2.2 a = (kd, n)) (h5 : 5 ≤ kd) (h8 : kd ≤ 8) : okV h (vR (some (kd, n, a))) := by
  intro k' n' a' hq
  cases hq
  obtain ⟨-, -, -, e4⟩ := hr a ha
  have := hh.1
  refine ⟨by omega, ?_, ?_, ?_⟩
  · unfold m_kd; rw [e4.1, hx]
  · unfold m_ln; rw [e4.1, hx]
  · constructor
    · intro z; omega
    · intro z; exact absurd ⟨h5, h8⟩ z
theorem tv_nr (ad : Nat → Nat) (r : Rf) : tv ad (vR r) = .null ∨ ∃ q, tv ad (vR r) = .ref q := by
  rw [← rfa_tv]
  cases rfa ad r with
  | none => exact Or.inl rfl
  | some q => exact Or.inr ⟨q, rfl⟩
theorem br0_eq {x : Int} (hx : cnI x) : (p_I x = 0) ↔ p_cnd .eq x 0 = true := (cn_eq hx cn_0).trans (by unfold p_cnd; simp)
theorem br0_ne {x : Int} (hx : cnI x) : (¬ p_I x = 0) ↔ p_cnd .ne x 0 = true := (not_congr (cn_eq hx cn_0)).trans (by unfold p_cnd; simp)
theorem br0_lt {x : Int} (hx : cnI x) : (p_I x < 0) ↔ p_cnd .lt x 0 = true := (cn_lt hx cn_0).trans (by unfold p_cnd; simp)
theorem br0_ge {x : Int} (hx : cnI x) : (0 ≤ p_I x) ↔ p_cnd .ge x 0 = true := (cn_le cn_0 hx).trans (by unfold p_cnd; simp)
theorem br0_gt {x : Int} (hx : cnI x) : (0 < p_I x) ↔ p_cnd .gt x 0 = true := (cn_lt cn_0 hx).trans (by unfold p_cnd; simp)
theorem br0_le {x : Int} (hx : cnI x) : (p_I x ≤ 0) ↔ p_cnd .le x 0 = true := (cn_le hx cn_0).trans (by unfold p_cnd; simp)
theorem br2_eq {x y : Int} (hx : cnI x) (hy : cnI y) : (p_I x = p_I y) ↔ p_cnd .eq x y = true := (cn_eq hx hy).trans (by unfold p_cnd; simp)
theorem br2_ne {x y : Int} (hx : cnI x) (hy : cnI y) : (¬ p_I x = p_I y) ↔ p_cnd .ne x y = true := (not_congr (cn_eq hx hy)).trans (by unfold p_cnd; simp)
theorem br2_lt {x y : Int} (hx : cnI x) (hy : cnI y) : (p_I x < p_I y) ↔ p_cnd .lt x y = true := (cn_lt hx hy).trans (by unfold p_cnd; simp)
theorem br2_ge {x y : Int} (hx : cnI x) (hy : cnI y) : (p_I y ≤ p_I x) ↔ p_cnd .ge x y = true := (cn_le hy hx).trans (by unfold p_cnd; simp)
theorem br2_gt {x y : Int} (hx : cnI x) (hy : cnI y) : (p_I y < p_I x) ↔ p_cnd .gt x y = true := (cn_lt hy hx).trans (by unfold p_cnd; simp)
theorem br2_le {x y : Int} (hx : cnI x) (hy : cnI y) : (p_I x ≤ p_I y) ↔ p_cnd .le x y = true := (cn_le hx hy).trans (by unfold p_cnd; simp)
theorem noret_ireturn {mi : Nat × Nat} {n pc : Nat} {ls : PLs} {st : List PV} {h : PM} {cf : PCf} : ¬ pm_ex mi .ireturn n pc ls st h = some (.inl cf) := by
  unfold pm_ex; dsimp only; simp only [Bool.cond_eq_ite]; repeat' split
  all_goals simp
theorem noret_lreturn {mi : Nat × Nat} {n pc : Nat} {ls : PLs} {st : List PV} {h : PM} {cf : PCf} : ¬ pm_ex mi .lreturn n pc ls st h = some (.inl cf) := by
  unfold pm_ex; dsimp only; simp only [Bool.cond_eq_ite]; repeat' split
  all_goals simp
theorem noret_areturn {mi : Nat × Nat} {n pc : Nat} {ls : PLs} {st : List PV} {h : PM} {cf : PCf} : ¬ pm_ex mi .areturn n pc ls st h = some (.inl cf) := by
  unfold pm_ex; dsimp only; simp only [Bool.cond_eq_ite]; repeat' split
  all_goals simp
theorem noret_return_ {mi : Nat × Nat} {n pc : Nat} {ls : PLs} {st : List PV} {h : PM} {cf : PCf} : ¬ pm_ex mi .return_ n pc ls st h = some (.inl cf) := by
  unfold pm_ex; dsimp only; simp only [Bool.cond_eq_ite]; repeat' split
  all_goals simp
set_option maxHeartbeats 4000000 in
theorem step_sound {mi : Nat × Nat} {inf : PInf} {own : String} (hTB : TB) (hFX : FX p s m args meth c mi inf own) (hSX : SX X D cA base s0 s) (hnL : nL = inf.2.2.1) (hRc : cF - c0 ≤ R.cells) (hRs : kF - k0 ≤ R.slots) {i : Instr} {n pc : Nat} {ls : PLs} {st : List PV} {h : PM} {cf : PCf}
    (hco : pm_code mi pc = some (i, n)) (hlen : p_lenok i n = true) (hni : ∀ ix, i ≠ .invokestatic ix ∧ i ≠ .invokespecial ix ∧ i ≠ .invokevirtual ix) (hs : pm_ex mi i n pc ls st h = some (.inl cf)) (hcF : m_ce cf.2.2.2 ≤ cF) (hkF : m_sl cf.2.2.2 ≤ kF)
    (K : GG p l e R s m args below meth c Q X D cA base nL c0 k0 cF kF cf) : GG p l e R s m args below meth c Q X D cA base nL c0 k0 cF kF (pc, ls, st, h) := by
  obtain ⟨f1, f2, hx, hb, hml, hr, hown, hts, hlk, hnm, htab⟩ := hFX
  obtain ⟨s1, hK, hSt, hRo, hao1, hao2, hz1, hz2, hcst, hgst, -⟩ := hSX
  obtain ⟨tb1, tb2, tb3, tb4, tb5, tb6, tb7, tb8⟩ := hTB
  have hd := tb1 mi inf pc i n f1 hco
  have hA : ∀ q, s.heap.size ≤ q → AB base q := fun q hq => Nat.le_trans s1.2.1 hq
  cases i with
  | iadd =>
    have hn : n = 1 := beq_t hlen
    subst hn
    exact sn_i2 (op := fun x y => x + y) hs (fun _ _ => rfl) (fun x y lsR H locs cells slots rest k => lv_iadd hx hb hd k) K
  | isub =>
    have hn : n = 1 := beq_t hlen
    subst hn
    exact sn_i2 (op := fun x y => x - y) hs (fun _ _ => rfl) (fun x y lsR H locs cells slots rest k => lv_isub hx hb hd k) K
  | imul =>
    have hn : n = 1 := beq_t hlen
    subst hn
    exact sn_i2 (op := fun x y => x * y) hs (fun _ _ => rfl) (fun x y lsR H locs cells slots rest k => lv_imul hx hb hd k) K
  | iand =>
    have hn : n = 1 := beq_t hlen
    subst hn
    exact sn_i2 (op := fun x y => x &&& y) hs (fun _ _ => rfl) (fun x y lsR H locs cells slots rest k => lv_iand hx hb hd k) K
  | ior =>
    have hn : n = 1 := beq_t hlen
    subst hn
    exact sn_i2 (op := fun x y => x ||| y) hs (fun _ _ => rfl) (fun x y lsR H locs cells slots rest k => lv_ior hx hb hd k) K
  | ixor =>
    have hn : n = 1 := beq_t hlen
    subst hn
    exact sn_i2 (op := fun x y => x ^^^ y) hs (fun _ _ => rfl) (fun x y lsR H locs cells slots rest k => lv_ixor hx hb hd k) K
  | ishl =>
    have hn : n = 1 := beq_t hlen
    subst hn
    exact sn_i2 (op := fun x y => x <<< (y &&& 31)) hs (fun _ _ => rfl) (fun x y lsR H locs cells slots rest k => lv_ishl hx hb hd k) K
  | ishr =>
    have hn : n = 1 := beq_t hlen
    subst hn
    exact sn_i2 (op := fun x y => x >>> (y &&& 31)) hs (fun _ _ => rfl) (fun x y lsR H locs cells slots rest k => lv_ishr hx hb hd k) K
  | iushr =>
    have hn : n = 1 := beq_t hlen
    subst hn
    exact sn_i2 (op := fun x y => (x.toUInt32 >>> (y.toUInt32 &&& Int32.toUInt32 31)).toInt32) hs (fun _ _ => rfl) (fun x y lsR H locs cells slots rest k => lv_iushr hx hb hd rfl k) K
  | idiv =>
    have hn : n = 1 := beq_t hlen
    subst hn
    exact sn_i2d (op := fun x y => x / y) hs (fun _ _ => rfl) (fun x y lsR H locs cells slots rest h0 k => lv_idiv hx hb hd h0 k) K
  | irem =>
    have hn : n = 1 := beq_t hlen
    subst hn
    exact sn_i2d (op := fun x y => x - x / y * y) hs (fun _ _ => rfl) (fun x y lsR H locs cells slots rest h0 k => lv_irem hx hb hd h0 k) K
  | lsub =>
    have hn : n = 1 := beq_t hlen
    subst hn
    exact sn_l2 (op := fun x y => x - y) hs (fun _ _ => rfl) (fun x y lsR H locs cells slots rest k => lv_lsub hx hb hd k) K
  | lmul =>
    have hn : n = 1 := beq_t hlen
    subst hn
    exact sn_l2 (op := fun x y => x * y) hs (fun _ _ => rfl) (fun x y lsR H locs cells slots rest k => lv_lmul hx hb hd k) K
  | lor =>
    have hn : n = 1 := beq_t hlen
    subst hn
    exact sn_l2 (op := fun x y => x ||| y) hs (fun _ _ => rfl) (fun x y lsR H locs cells slots rest k => lv_lor hx hb hd k) K
  | i2b =>
    have hn : n = 1 := beq_t hlen
    subst hn
    exact sn_i1 (op := fun x => x.toInt8.toInt32) hs (fun _ => rfl) (fun x lsR H locs cells slots rest k => lv_i2b hx hb hd rfl k) K
  | i2c =>
    have hn : n = 1 := beq_t hlen
    subst hn
    exact sn_i1 (op := fun x => (x.toUInt32 % 65536).toInt32) hs (fun _ => rfl) (fun x lsR H locs cells slots rest k => lv_i2c hx hb hd rfl k) K
  | iconst v =>
    have hn : n = 1 := beq_t hlen
    subst hn
    exact sn_psi hs (fun lsR H locs cells slots rest _ k => lv_iconst (v := p_I v) hx hb hd rfl k) K
  | bipush v =>
    have hn : n = 2 := beq_t hlen
    subst hn
    exact sn_psi hs (fun lsR H locs cells slots rest hv k => lv_bipush (v := p_I v) hx hb hd (of_decide_eq_true hv) k) K
  | sipush v =>
    have hn : n = 3 := beq_t hlen
    subst hn
    exact sn_psi hs (fun lsR H locs cells slots rest hv k => lv_sipush (v := p_I v) hx hb hd (of_decide_eq_true hv) k) K
  | iload_n k =>
    have hn : n = 1 := beq_t hlen
    subst hn
    refine sn_lda hs (fun ad v lsR H locs cells slots rest ht hl k9 => ?_) K
    rcases v with y | y | r
    · exact lv_iload_n hx hb hd rfl hl k9
    · exact absurd ht (by simp [p_tg])
    · exact absurd ht (by simp [p_tg])
  | iload k =>
    have hn : n = 2 := beq_t hlen
    subst hn
    refine sn_lda hs (fun ad v lsR H locs cells slots rest ht hl k9 => ?_) K
    rcases v with y | y | r
    · exact lv_iload hx hb hd hl k9
    · exact absurd ht (by simp [p_tg])
    · exact absurd ht (by simp [p_tg])
  | lload_n k =>
    have hn : n = 1 := beq_t hlen
    subst hn
    refine sn_lda hs (fun ad v lsR H locs cells slots rest ht hl k9 => ?_) K
    rcases v with y | y | r
    · exact absurd ht (by simp [p_tg])
    · exact lv_lload_n hx hb hd rfl hl k9
    · exact absurd ht (by simp [p_tg])
  | lload k =>
    have hn : n = 2 := beq_t hlen
    subst hn
    refine sn_lda hs (fun ad v lsR H locs cells slots rest ht hl k9 => ?_) K
    rcases v with y | y | r
    · exact absurd ht (by simp [p_tg])
    · exact lv_lload hx hb hd hl k9
    · exact absurd ht (by simp [p_tg])
  | aload_n k =>
    have hn : n = 1 := beq_t hlen
    subst hn
    refine sn_lda hs (fun ad v lsR H locs cells slots rest ht hl k9 => ?_) K
    rcases v with y | y | r
    · exact absurd ht (by simp [p_tg])
    · exact absurd ht (by simp [p_tg])
    · rcases tv_nr ad r with z | ⟨q, z⟩
      · rw [z] at hl k9
        exact lv_aload_nN hx hb hd rfl hl k9
      · rw [z] at hl k9
        exact lv_aload_n hx hb hd rfl hl k9
  | aload k =>
    have hn : n = 2 := beq_t hlen
    subst hn
    refine sn_lda hs (fun ad v lsR H locs cells slots rest ht hl k9 => ?_) K
    rcases v with y | y | r
    · exact absurd ht (by simp [p_tg])
    · exact absurd ht (by simp [p_tg])
    · rcases tv_nr ad r with z | ⟨q, z⟩
      · rw [z] at hl k9
        exact lv_aloadN hx hb hd hl k9
      · rw [z] at hl k9
        exact lv_aload hx hb hd hl k9
  | istore_n k =>
    have hn : n = 1 := beq_t hlen
    subst hn
    refine sn_sta hs (fun ad v lv lsR H locs cells slots rest ht hh hk kk => ?_) K
    rcases v with y | y | r
    · exact lv_istore_n hx hb hd rfl hh hk rfl kk
    · exact absurd ht (by simp [p_tg])
    · exact absurd ht (by simp [p_tg])
  | istore k =>
    have hn : n = 2 := beq_t hlen
    subst hn
    refine sn_sta hs (fun ad v lv lsR H locs cells slots rest ht hh hk kk => ?_) K
    rcases v with y | y | r
    · exact lv_istore hx hb hd hh hk rfl kk
    · exact absurd ht (by simp [p_tg])
    · exact absurd ht (by simp [p_tg])
  | astore_n k =>
    have hn : n = 1 := beq_t hlen
    subst hn
    refine sn_sta hs (fun ad v lv lsR H locs cells slots rest ht hh hk kk => ?_) K
    rcases v with y | y | r
    · exact absurd ht (by simp [p_tg])
    · exact absurd ht (by simp [p_tg])
    · rcases tv_nr ad r with z | ⟨q, z⟩
      · rw [z] at kk ⊢
        exact lv_astore_nN hx hb hd rfl hh hk rfl kk
      · rw [z] at kk ⊢
        exact lv_astore_n hx hb hd rfl hh hk rfl kk
  | astore k =>
    have hn : n = 2 := beq_t hlen
    subst hn
    refine sn_sta hs (fun ad v lv lsR H locs cells slots rest ht hh hk kk => ?_) K
    rcases v with y | y | r
    · exact absurd ht (by simp [p_tg])
    · exact absurd ht (by simp [p_tg])
    · rcases tv_nr ad r with z | ⟨q, z⟩
      · rw [z] at kk ⊢
        exact lv_astoreN hx hb hd hh hk rfl kk
      · rw [z] at kk ⊢
        exact lv_astore hx hb hd hh hk rfl kk
  | lstore_n k =>
    have hn : n = 1 := beq_t hlen
    subst hn
    exact sn_stl hs (fun x lv lsR H locs cells slots rest hh hk kk => lv_lstore_n hx hb hd rfl hh hk rfl kk) K
  | lstore k =>
    have hn : n = 2 := beq_t hlen
    subst hn
    exact sn_stl hs (fun x lv lsR H locs cells slots rest hh hk kk => lv_lstore hx hb hd hh hk rfl kk) K
  | iinc k v =>
    have hn : n = 3 := beq_t hlen
    subst hn
    have hs : (match p_ld ls k with
      | some (.inl x) => (match p_st ls k (vI (p_add x v)) with
        | some ls' => p_nx pc 3 ls' st h
        | none => none)
      | _ => none) = some (.inl cf) := hs
    match hv : p_ld ls k, hs with
    | some (.inl x), hs =>
      have hs : (match p_st ls k (vI (p_add x v)) with
        | some ls' => p_nx pc 3 ls' st h
        | none => none) = some (.inl cf) := hs
      cases hp : p_st ls k (vI (p_add x v)) with
      | none => rw [hp] at hs; cases hs
      | some ls' =>
        rw [hp] at hs
        have hs : p_nx pc 3 ls' st h = some (.inl cf) := hs
        cases nx_inj hs
        intro ad lsR H locs hP hL hT hl h1 h2 h3 h4
        have hk := p_ld_some.mp hv
        obtain ⟨kk9, hkk⟩ := List.getElem?_of_mem (mem_lvl.mpr ⟨vI x, hk, rfl⟩ : (k, tv ad (vI x)) ∈ lvl ad ls)
        have hlt := (List.getElem?_eq_some_iff.mp hk).1
        refine lv_iinc (x := p_I x) (v := p_I x + Int32.ofInt v) (k := kk9) hx hb hd hL.has hkk rfl (by have := hL.2.2.1; dsimp only at this; omega) rfl (fun lsR' hh => ?_)
        have hvv : tv ad (vI (p_add x v)) = .int (p_I x + Int32.ofInt v) := by
          show Value.int (p_I (p_add x v)) = _
          unfold p_add
          rw [p_I_toInt]
          rfl
        have hst := (p_st_spec hp).1
        refine K ad lsR' H locs hP (hL.store hp (by rw [hvv]; exact hh)) hT ?_ h1 h2 h3 h4
        rw [hst]
        exact okL.set hl (by show cnI (p_add x v); exact cnI_toInt _) k
  | i2l =>
    have hn : n = 1 := beq_t hlen
    subst hn
    match st, hs with
    | .inl x :: st, hs =>
      cases nx_inj hs
      intro ad lsR H locs hP hL hT hl h1 h2 h3 h4
      refine lv_i2l (v := p_L (p_i2l x)) hx hb hd (by unfold p_i2l; rw [p_L_toInt]) ?_
      exact K ad lsR H locs hP hL (okT.cons (by show cnL (p_i2l x); exact cnL_toInt _) hT.tail) hl h1 h2 h3 h4
  | l2i =>
    have hn : n = 1 := beq_t hlen
    subst hn
    match st, hs with
    | .inr (.inl x) :: st, hs =>
      cases nx_inj hs
      intro ad lsR H locs hP hL hT hl h1 h2 h3 h4
      refine lv_l2i (v := p_I (p_l2i x)) hx hb hd (by unfold p_l2i; rw [p_I_toInt]) ?_
      exact K ad lsR H locs hP hL (okT.cons (by show cnI (p_l2i x); exact cnI_toInt _) hT.tail) hl h1 h2 h3 h4
  | lshl =>
    have hn : n = 1 := beq_t hlen
    subst hn
    match st, hs with
    | .inl y :: .inr (.inl x) :: st, hs =>
      cases nx_inj hs
      intro ad lsR H locs hP hL hT hl h1 h2 h3 h4
      refine lv_lshl (v := p_L (p_lshl x y)) hx hb hd (by unfold p_lshl; rw [p_L_toInt]) ?_
      exact K ad lsR H locs hP hL (okT.cons (by show cnL (p_lshl x y); exact cnL_toInt _) hT.tail.tail) hl h1 h2 h3 h4
  | lcmp =>
    have hn : n = 1 := beq_t hlen
    subst hn
    match st, hs with
    | .inr (.inl y) :: .inr (.inl x) :: st, hs =>
      cases nx_inj hs
      intro ad lsR H locs hP hL hT hl h1 h2 h3 h4
      refine W.lcmp hx hb hd ?_
      have hv : lg_cmp (p_L x) (p_L y) = p_I (p_lcmp x y) := by unfold p_lcmp; rw [p_I_toInt]
      rw [hv]
      exact K ad lsR H locs hP hL (okT.cons (by show cnI (p_lcmp x y); exact cnI_toInt _) hT.tail.tail) hl h1 h2 h3 h4
  | lconst v =>
    have hn : n = 1 := beq_t hlen
    subst hn
    cases nx_inj hs
    intro ad lsR H locs hP hL hT hl h1 h2 h3 h4
    refine lv_lconst (v := p_L (Int64.ofNat v.val).toInt) hx hb hd (by rw [p_L_toInt]) ?_
    exact K ad lsR H locs hP hL (okT.cons (by show cnL _; exact cnL_toInt _) hT) hl h1 h2 h3 h4
  | dup =>
    have hn : n = 1 := beq_t hlen
    subst hn
    match st, hs with
    | v :: st, hs =>
      have hs : (bif Nat.beq (p_cat v) 1 then p_nx pc 1 ls (v :: v :: st) h else none) = some (.inl cf) := hs
      cases hc : Nat.beq (p_cat v) 1 with
      | false => rw [hc] at hs; cases hs
      | true =>
        rw [hc] at hs
        cases nx_inj hs
        intro ad lsR H locs hP hL hT hl h1 h2 h3 h4
        refine lv_dup hx hb hd (by rw [tv_cat]; exact beq_t hc) ?_
        exact K ad lsR H locs hP hL (okT.cons hT.head hT) hl h1 h2 h3 h4
  | pop =>
    have hn : n = 1 := beq_t hlen
    subst hn
    match st, hs with
    | v :: st, hs =>
      have hs : (bif Nat.beq (p_cat v) 1 then p_nx pc 1 ls st h else none) = some (.inl cf) := hs
      cases hc : Nat.beq (p_cat v) 1 with
      | false => rw [hc] at hs; cases hs
      | true =>
        rw [hc] at hs
        cases nx_inj hs
        intro ad lsR H locs hP hL hT hl h1 h2 h3 h4
        refine lv_pop (va := tv ad v) hx hb hd (by rw [tv_cat]; exact beq_t hc) ?_
        exact K ad lsR H locs hP hL hT.tail hl h1 h2 h3 h4
  | dup2 =>
    have hn : n = 1 := beq_t hlen
    subst hn
    match st, hs with
    | v :: w :: st, hs =>
      have hs : (bif Nat.beq (p_cat v) 1 && Nat.beq (p_cat w) 1 then p_nx pc 1 ls (v :: w :: v :: w :: st) h else none) = some (.inl cf) := hs
      cases hc : (Nat.beq (p_cat v) 1 && Nat.beq (p_cat w) 1) with
      | false => rw [hc] at hs; cases hs
      | true =>
        rw [hc] at hs
        cases nx_inj hs
        obtain ⟨c1, c2⟩ := Bool.and_eq_true_iff.mp hc
        intro ad lsR H locs hP hL hT hl h1 h2 h3 h4
        refine lv_dup2_11 (va := tv ad v) (vb := tv ad w) hx hb hd (by rw [tv_cat]; exact beq_t c1) (by rw [tv_cat]; exact beq_t c2) ?_
        exact K ad lsR H locs hP hL (okT.cons hT.head (okT.cons hT.tail.head hT)) hl h1 h2 h3 h4
  | ifCond cd off =>
    have hn : n = 3 := beq_t hlen
    subst hn
    match st, hs with
    | .inl x :: st, hs =>
      intro ad lsR H locs hP hL hT hl h1 h2 h3 h4
      have hcx : cnI x := hT.head
      cases cd with
      | eq => exact sn_br hs (br0_eq hcx) (fun ht kt kf => lv_if_eq hx hb hd ht kt kf) K hP hL hT.tail hl h1 h2 h3 h4
      | ne => exact sn_br hs (br0_ne hcx) (fun ht kt kf => lv_if_ne hx hb hd ht kt (fun z => kf (fun y => y z))) K hP hL hT.tail hl h1 h2 h3 h4
      | lt => exact sn_br hs (br0_lt hcx) (fun ht kt kf => lv_if_lt hx hb hd ht kt kf) K hP hL hT.tail hl h1 h2 h3 h4
      | ge => exact sn_br hs (br0_ge hcx) (fun ht kt kf => lv_if_ge hx hb hd ht kt kf) K hP hL hT.tail hl h1 h2 h3 h4
      | gt => exact sn_br hs (br0_gt hcx) (fun ht kt kf => lv_if_gt hx hb hd ht kt kf) K hP hL hT.tail hl h1 h2 h3 h4
      | le => exact sn_br hs (br0_le hcx) (fun ht kt kf => lv_if_le hx hb hd ht kt kf) K hP hL hT.tail hl h1 h2 h3 h4
  | if_icmp cd off =>
    have hn : n = 3 := beq_t hlen
    subst hn
    match st, hs with
    | .inl y :: .inl x :: st, hs =>
      intro ad lsR H locs hP hL hT hl h1 h2 h3 h4
      have hcy : cnI y := hT.head
      have hcx : cnI x := hT.tail.head
      cases cd with
      | eq => exact sn_br hs (br2_eq hcx hcy) (fun ht kt kf => lv_icmp_eq hx hb hd ht kt kf) K hP hL hT.tail.tail hl h1 h2 h3 h4
      | ne => exact sn_br hs (br2_ne hcx hcy) (fun ht kt kf => lv_icmp_ne hx hb hd ht kt (fun z => kf (fun y => y z))) K hP hL hT.tail.tail hl h1 h2 h3 h4
      | lt => exact sn_br hs (br2_lt hcx hcy) (fun ht kt kf => lv_icmp_lt hx hb hd ht kt kf) K hP hL hT.tail.tail hl h1 h2 h3 h4
      | ge => exact sn_br hs (br2_ge hcx hcy) (fun ht kt kf => lv_icmp_ge hx hb hd ht kt kf) K hP hL hT.tail.tail hl h1 h2 h3 h4
      | gt => exact sn_br hs (br2_gt hcx hcy) (fun ht kt kf => lv_icmp_gt hx hb hd ht kt kf) K hP hL hT.tail.tail hl h1 h2 h3 h4
      | le => exact sn_br hs (br2_le hcx hcy) (fun ht kt kf => lv_icmp_le hx hb hd ht kt kf) K hP hL hT.tail.tail hl h1 h2 h3 h4
  | ifnonnull off =>
    have hn : n = 3 := beq_t hlen
    subst hn
    match st, hs with
    | .inr (.inr none) :: st, hs =>
      intro ad lsR H locs hP hL hT hl h1 h2 h3 h4
      exact sn_br (st0 := .inr (.inr none) :: st) hs (P := False) (by simp) (fun ht kt kf => lv_ifnonnullN hx hb hd (kf id)) K hP hL hT.tail hl h1 h2 h3 h4
    | .inr (.inr (some (kd, n9, a))) :: st, hs =>
      have hs : (bif Nat.beq kd 8 then none else p_if true pc off ls st h) = some (.inl cf) := hs
      cases h8 : Nat.beq kd 8 with
      | true => rw [h8] at hs; cases hs
      | false =>
        rw [h8] at hs
        have hs : p_if true pc off ls st h = some (.inl cf) := hs
        intro ad lsR H locs hP hL hT hl h1 h2 h3 h4
        refine sn_br (st0 := .inr (.inr (some (kd, n9, a))) :: st) hs (P := True) (by simp) (fun ht kt kf => ?_) K hP hL hT.tail hl h1 h2 h3 h4
        show W p l e R s m args below meth c H locs _ _ Q (F0 m pc lsR (tv ad (vR (some (kd, n9, a))) :: st.map (tv ad)))
        rw [tv_ref (fun z => by rw [z] at h8; cases h8)]
        exact lv_ifnonnull hx hb hd ht (kt trivial)
  | goto off =>
    have hn : n = 3 := beq_t hlen
    subst hn
    have hs : (bif decide (0 ≤ (pc : Int) + off) then p_nx (p_tgt pc off) 0 ls st h else none) = some (.inl cf) := hs
    cases hz : decide (0 ≤ (pc : Int) + off) with
    | false => rw [hz] at hs; cases hs
    | true =>
      rw [hz] at hs
      cases nx_inj hs
      have h0 : 0 ≤ (pc : Int) + off := of_decide_eq_true hz
      intro ad lsR H locs hP hL hT hl h1 h2 h3 h4
      exact lv_goto (tgt := p_tgt pc off) hx hb hd (by unfold p_tgt; omega) (K ad lsR H locs hP hL hT hl h1 h2 h3 h4)
  | tableswitch dflt lo hi offs =>
    match st, hs with
    | .inl x :: st, hs =>
      have hs : (bif decide (x < lo) || decide (hi < x) then (bif decide (0 ≤ (pc : Int) + dflt) then p_nx (p_tgt pc dflt) 0 ls st h else none) else
        match pl_at offs.toList (x - lo).toNat with
        | some off => bif decide (0 ≤ (pc : Int) + off) then p_nx (p_tgt pc off) 0 ls st h else none
        | none => none) = some (.inl cf) := hs
      cases hc : (decide (x < lo) || decide (hi < x)) with
      | true =>
        rw [hc] at hs
        have hs : (bif decide (0 ≤ (pc : Int) + dflt) then p_nx (p_tgt pc dflt) 0 ls st h else none) = some (.inl cf) := hs
        cases hz : decide (0 ≤ (pc : Int) + dflt) with
        | false => rw [hz] at hs; cases hs
        | true =>
          rw [hz] at hs
          cases nx_inj hs
          have h0 : 0 ≤ (pc : Int) + dflt := of_decide_eq_true hz
          intro ad lsR H locs hP hL hT hl h1 h2 h3 h4
          have hcx : (p_I x).toInt = x := hT.head
          simp only [Bool.or_eq_true, decide_eq_true_eq] at hc
          exact lv_tableOut (tgt := p_tgt pc dflt) hx hb hd (by rw [hcx]; exact hc) (by unfold p_tgt; omega) (K ad lsR H locs hP hL hT.tail hl h1 h2 h3 h4)
      | false =>
        rw [hc] at hs
        have hs : (match pl_at offs.toList (x - lo).toNat with
          | some off => bif decide (0 ≤ (pc : Int) + off) then p_nx (p_tgt pc off) 0 ls st h else none
          | none => none) = some (.inl cf) := hs
        cases ho : pl_at offs.toList (x - lo).toNat with
        | none => rw [ho] at hs; cases hs
        | some off =>
          rw [ho] at hs
          have hs : (bif decide (0 ≤ (pc : Int) + off) then p_nx (p_tgt pc off) 0 ls st h else none) = some (.inl cf) := hs
          cases hz : decide (0 ≤ (pc : Int) + off) with
          | false => rw [hz] at hs; cases hs
          | true =>
            rw [hz] at hs
            cases nx_inj hs
            have h0 : 0 ≤ (pc : Int) + off := of_decide_eq_true hz
            intro ad lsR H locs hP hL hT hl h1 h2 h3 h4
            have hcx : (p_I x).toInt = x := hT.head
            simp only [Bool.or_eq_false_iff, decide_eq_false_iff_not] at hc
            exact lv_tableIn (tgt := p_tgt pc off) (off := off) hx hb hd (by rw [hcx]; exact hc.1) (by rw [hcx]; exact hc.2) (by rw [hcx, ← Array.getElem?_toList, ← pl_at_eq]; exact ho) (by unfold p_tgt; omega) (K ad lsR H locs hP hL hT.tail hl h1 h2 h3 h4)
  | ldc ix =>
    have hn : n = 2 := beq_t hlen
    subst hn
    have hs : (match pm_cst mi.1 ix with
      | some v => p_nx pc 2 ls (v :: st) h
      | none => none) = some (.inl cf) := hs
    cases hv : pm_cst mi.1 ix with
    | none => rw [hv] at hs; cases hs
    | some v =>
      rw [hv] at hs
      cases nx_inj hs
      intro ad lsR H locs hP hL hT hl h1 h2 h3 h4
      rcases hcst mi.1 own ix v f2 hv with ⟨x, rfl, hcx, hw⟩ | ⟨n9, a, tx, rfl, ha, hsh, hR⟩
      · exact lv_ldc hx hb hown (hts _ hw) hd (K ad lsR H locs hP hL (okT.cons hcx hT) hl h1 h2 h3 h4)
      · have hk := K ad lsR H locs hP hL (okT.cons (okV_low hP.2.2.2.1 hP.2.2.2.2 ha hsh (by decide) (by decide)) hT) hl h1 h2 h3 h4
        have hk : W p l e R s m args below meth c H locs (m_ce h - c0) (m_sl h - k0) Q (F0 m (pc + 2) lsR (tv ad (vR (some (6, n9, a))) :: st.map (tv ad))) := hk
        rw [tv_ref (by decide), (hP.2.2.2.2 a ha).1] at hk
        exact va_ldcS hx hb hown hR hd hk
  | ldc_w ix =>
    have hn : n = 3 := beq_t hlen
    subst hn
    have hs : (match pm_cstw mi.1 ix with
      | some v => p_nx pc 3 ls (v :: st) h
      | none => none) = some (.inl cf) := hs
    cases hv : pm_cstw mi.1 ix with
    | none => rw [hv] at hs; cases hs
    | some v =>
      rw [hv] at hs
      cases nx_inj hs
      intro ad lsR H locs hP hL hT hl h1 h2 h3 h4
      obtain ⟨x, rfl, hcx, hw⟩ := tb4 mi.1 own ix v f2 hv
      exact lv_ldcw hx hb hown (hts _ hw) hd (K ad lsR H locs hP hL (okT.cons hcx hT) hl h1 h2 h3 h4)
  | ldc2_w ix =>
    have hn : n = 3 := beq_t hlen
    subst hn
    have hs : (match pm_cst2 mi.1 ix with
      | some v => p_nx pc 3 ls (v :: st) h
      | none => none) = some (.inl cf) := hs
    cases hv : pm_cst2 mi.1 ix with
    | none => rw [hv] at hs; cases hs
    | some v =>
      rw [hv] at hs
      cases nx_inj hs
      intro ad lsR H locs hP hL hT hl h1 h2 h3 h4
      obtain ⟨x, rfl, hcx, hw⟩ := tb5 mi.1 own ix v f2 hv
      exact lv_ldc2 hx hb hown (hts _ hw) hd (K ad lsR H locs hP hL (okT.cons hcx hT) hl h1 h2 h3 h4)
  | getstatic ix =>
    have hn : n = 3 := beq_t hlen
    subst hn
    have hs : (match pm_gst mi.1 ix with
      | some v => p_nx pc 3 ls (v :: st) h
      | none => none) = some (.inl cf) := hs
    cases hv : pm_gst mi.1 ix with
    | none => rw [hv] at hs; cases hs
    | some v =>
      rw [hv] at hs
      cases nx_inj hs
      intro ad lsR H locs hP hL hT hl h1 h2 h3 h4
      obtain ⟨C, nm, ds, hZ, hw, hok⟩ := hgst mi.1 own ix v f2 hv
      have hov : okV h v := by
        rcases hok with ⟨x, rfl, hcx⟩ | ⟨kd, n9, a, rfl, ha, hsh, h5, h8⟩
        · exact hcx
        · exact okV_low hP.2.2.2.1 hP.2.2.2.2 ha hsh h5 h8
      exact va_gets hx hb (hZ ad (fun i hi => (hP.2.2.2.2 i hi).1)) hP.2.2.1 hown (hts _ hw) (fun _ h9 => h9) hd (K ad lsR H locs hP hL (okT.cons hov hT) hl h1 h2 h3 h4)
  | getfield ix =>
    have hn : n = 3 := beq_t hlen
    subst hn
    exact sn_get hx hb hown hts hK hSt (fun ci k t fin hq => tb2 mi.1 own ix ci k t fin f2 hq) hd hs K
  | putfield ix =>
    have hn : n = 3 := beq_t hlen
    subst hn
    exact sn_put hx hb hown hts hK (fun ci k t fin hq => tb2 mi.1 own ix ci k t fin f2 hq) (fun m0 ci hci C T N hq => by have z := tb3 mi inf own f1 f2 m0 ci hci C T N hq; exact ⟨hnm.trans z.1, z.2⟩) hd hs K
  | iaload =>
    have hn : n = 1 := beq_t hlen
    subst hn
    exact sn_iald hx hb hK hRo hd hs K
  | baload =>
    have hn : n = 1 := beq_t hlen
    subst hn
    exact sn_bald hx hb hK hRo hd hs K
  | laload =>
    have hn : n = 1 := beq_t hlen
    subst hn
    exact sn_lald hx hb hK hd hs K
  | aaload =>
    have hn : n = 1 := beq_t hlen
    subst hn
    exact sn_aald hx hb hK hd hs K
  | iastore =>
    have hn : n = 1 := beq_t hlen
    subst hn
    exact sn_iast hx hb hK hd hs K
  | bastore =>
    have hn : n = 1 := beq_t hlen
    subst hn
    exact sn_bast hx hb hK hd hs K
  | lastore =>
    have hn : n = 1 := beq_t hlen
    subst hn
    exact sn_last hx hb hK hd hs K
  | aastore =>
    have hn : n = 1 := beq_t hlen
    subst hn
    exact sn_aast hx hb hK hd hs K
  | arraylength =>
    have hn : n = 1 := beq_t hlen
    subst hn
    exact sn_alen hx hb hK hRo hd hs K
  | newarray ty =>
    have hn : n = 2 := beq_t hlen
    subst hn
    cases ty with
    | int =>
      have z := newa_ok (X := X) hK (h := h) 0 .int (Or.inl ⟨rfl, rfl⟩)
      exact sn_newa (at0 := .int) (ty := .int) hx hb hK hA (hts _ tb8.1) rfl (by decide) z.1 z.2 (by decide) hRc hRs hcF hkF hd hs K
    | byte =>
      have z := newa_ok (X := X) hK (h := h) 1 .byte (Or.inr (Or.inl ⟨rfl, rfl⟩))
      exact sn_newa (at0 := .byte) (ty := .byte) hx hb hK hA (hts _ tb8.2.1) rfl (by decide) z.1 z.2 (by decide) hRc hRs hcF hkF hd hs K
    | long =>
      have z := newa_ok (X := X) hK (h := h) 2 .long (Or.inr (Or.inr ⟨rfl, rfl⟩))
      exact sn_newa (at0 := .long) (ty := .long) hx hb hK hA (hts _ tb8.2.2) rfl (by decide) z.1 z.2 (by decide) hRc hRs hcF hkF hd hs K
    | _ => cases hs
  | anewarray ix =>
    have hn : n = 3 := beq_t hlen
    subst hn
    have hs : (match pm_newr mi.1 ix with
      | some kd => p_newa kd pc 3 ls st h
      | none => none) = some (.inl cf) := hs
    cases hv : pm_newr mi.1 ix with
    | none => rw [hv] at hs; cases hs
    | some kd =>
      rw [hv] at hs
      rcases tb6 mi.1 own ix kd f2 hv with ⟨z, hw⟩ | ⟨z, hw⟩
      · exact sn_newr (mi := mi) hx hb hown (hts _ hw) hao1 hK hA (Or.inl ⟨z, rfl⟩) hRc hRs hcF hkF hd hs K
      · exact sn_newr (mi := mi) hx hb hown (hts _ hw) hao2 hK hA (Or.inr ⟨z, rfl⟩) hRc hRs hcF hkF hd hs K
  | new ix =>
    have hn : n = 3 := beq_t hlen
    subst hn
    have hs : p_new mi ix pc ls st h = some (.inl cf) := hs
    unfold p_new at hs
    split at hs
    · rename_i ci N hq
      cases nx_inj hs
      obtain ⟨hci, C, T, ty, hC, w1, w2, w3⟩ := tb7 mi.1 own ix ci N f2 hq
      exact sn_newo hx hb hown hts hC hci (hts _ w1) (hts _ w2) (hts _ w3) hK hA hRc hRs hcF hkF hd K
    · exfalso
      split at hs
      · split at hs
        · rename_i kk e' _ _ _
          cases hz : (Nat.beq kk 7 && Nat.beq _ e' && p_room st && p_notab mi) <;> rw [hz] at hs <;> cases hs
        · cases hs
      · cases hs
    · cases hs
  | invokestatic ix =>
    exact absurd rfl (hni ix).1
  | invokespecial ix =>
    exact absurd rfl (hni ix).2.1
  | invokevirtual ix =>
    exact absurd rfl (hni ix).2.2
  | ireturn =>
    exact absurd hs (noret_ireturn)
  | lreturn =>
    exact absurd hs (noret_lreturn)
  | areturn =>
    exact absurd hs (noret_areturn)
  | return_ =>
    exact absurd hs (noret_return_)
  | _ => cases hs
end Steps
end
