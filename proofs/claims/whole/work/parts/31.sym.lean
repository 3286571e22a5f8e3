/-! ===== one rule for each kind of instruction ===== -/
noncomputable section
section
variable {d pc : Nat} {mi : Nat × Nat} {r : PO × PM} {ls ls' : PLs} {st : List PV} {h : PM}
theorem step_of {mi : Nat × Nat} {pc : Nat} {ls : PLs} {st : List PV} {h : PM} {i : Instr} {n : Nat} {q : PR} (hc : pm_code mi pc = some (i, n)) (hl : p_lenok i n = true) (he : pm_ex mi i n pc ls st h = some q) : pm_step mi (pc, ls, st, h) = some q := by
  unfold pm_step
  dsimp only
  rw [hc]
  dsimp only
  rw [hl]
  exact he
theorem s_iadd {x y : Int} (hc : pm_code mi pc = some (.iadd, 1)) (k : Ev d mi (pc + 1, ls, vI (p_add x y) :: st, h) r) : Ev d mi (pc, ls, vI y :: vI x :: st, h) r := ev_step (step_of hc rfl rfl) k
theorem s_isub {x y : Int} (hc : pm_code mi pc = some (.isub, 1)) (k : Ev d mi (pc + 1, ls, vI (p_sub x y) :: st, h) r) : Ev d mi (pc, ls, vI y :: vI x :: st, h) r := ev_step (step_of hc rfl rfl) k
theorem s_imul {x y : Int} (hc : pm_code mi pc = some (.imul, 1)) (k : Ev d mi (pc + 1, ls, vI (p_mul x y) :: st, h) r) : Ev d mi (pc, ls, vI y :: vI x :: st, h) r := ev_step (step_of hc rfl rfl) k
theorem s_iand {x y : Int} (hc : pm_code mi pc = some (.iand, 1)) (k : Ev d mi (pc + 1, ls, vI (p_and x y) :: st, h) r) : Ev d mi (pc, ls, vI y :: vI x :: st, h) r := ev_step (step_of hc rfl rfl) k
theorem s_ior {x y : Int} (hc : pm_code mi pc = some (.ior, 1)) (k : Ev d mi (pc + 1, ls, vI (p_or x y) :: st, h) r) : Ev d mi (pc, ls, vI y :: vI x :: st, h) r := ev_step (step_of hc rfl rfl) k
theorem s_ixor {x y : Int} (hc : pm_code mi pc = some (.ixor, 1)) (k : Ev d mi (pc + 1, ls, vI (p_xor x y) :: st, h) r) : Ev d mi (pc, ls, vI y :: vI x :: st, h) r := ev_step (step_of hc rfl rfl) k
theorem s_ishl {x y : Int} (hc : pm_code mi pc = some (.ishl, 1)) (k : Ev d mi (pc + 1, ls, vI (p_shl x y) :: st, h) r) : Ev d mi (pc, ls, vI y :: vI x :: st, h) r := ev_step (step_of hc rfl rfl) k
theorem s_ishr {x y : Int} (hc : pm_code mi pc = some (.ishr, 1)) (k : Ev d mi (pc + 1, ls, vI (p_shr x y) :: st, h) r) : Ev d mi (pc, ls, vI y :: vI x :: st, h) r := ev_step (step_of hc rfl rfl) k
theorem s_iushr {x y : Int} (hc : pm_code mi pc = some (.iushr, 1)) (k : Ev d mi (pc + 1, ls, vI (p_ushr x y) :: st, h) r) : Ev d mi (pc, ls, vI y :: vI x :: st, h) r := ev_step (step_of hc rfl rfl) k
theorem s_idiv {x y : Int} (hc : pm_code mi pc = some (.idiv, 1)) (hy : y ≠ 0) (k : Ev d mi (pc + 1, ls, vI (p_div x y) :: st, h) r) : Ev d mi (pc, ls, vI y :: vI x :: st, h) r := ev_step (step_of hc rfl (by show (bif decide (y = 0) then none else _) = _; rw [decide_eq_false hy]; rfl)) k
theorem s_irem {x y : Int} (hc : pm_code mi pc = some (.irem, 1)) (hy : y ≠ 0) (k : Ev d mi (pc + 1, ls, vI (p_rem x y) :: st, h) r) : Ev d mi (pc, ls, vI y :: vI x :: st, h) r := ev_step (step_of hc rfl (by show (bif decide (y = 0) then none else _) = _; rw [decide_eq_false hy]; rfl)) k
theorem s_i2b {x : Int} (hc : pm_code mi pc = some (.i2b, 1)) (k : Ev d mi (pc + 1, ls, vI (p_i2b x) :: st, h) r) : Ev d mi (pc, ls, vI x :: st, h) r := ev_step (step_of hc rfl rfl) k
theorem s_i2c {x : Int} (hc : pm_code mi pc = some (.i2c, 1)) (k : Ev d mi (pc + 1, ls, vI (p_i2c x) :: st, h) r) : Ev d mi (pc, ls, vI x :: st, h) r := ev_step (step_of hc rfl rfl) k
theorem s_i2l {x : Int} (hc : pm_code mi pc = some (.i2l, 1)) (k : Ev d mi (pc + 1, ls, vL (p_i2l x) :: st, h) r) : Ev d mi (pc, ls, vI x :: st, h) r := ev_step (step_of hc rfl rfl) k
theorem s_l2i {x : Int} (hc : pm_code mi pc = some (.l2i, 1)) (k : Ev d mi (pc + 1, ls, vI (p_l2i x) :: st, h) r) : Ev d mi (pc, ls, vL x :: st, h) r := ev_step (step_of hc rfl rfl) k
theorem s_lsub {x y : Int} (hc : pm_code mi pc = some (.lsub, 1)) (k : Ev d mi (pc + 1, ls, vL (p_lsub x y) :: st, h) r) : Ev d mi (pc, ls, vL y :: vL x :: st, h) r := ev_step (step_of hc rfl rfl) k
theorem s_lmul {x y : Int} (hc : pm_code mi pc = some (.lmul, 1)) (k : Ev d mi (pc + 1, ls, vL (p_lmul x y) :: st, h) r) : Ev d mi (pc, ls, vL y :: vL x :: st, h) r := ev_step (step_of hc rfl rfl) k
theorem s_lor {x y : Int} (hc : pm_code mi pc = some (.lor, 1)) (k : Ev d mi (pc + 1, ls, vL (p_lor x y) :: st, h) r) : Ev d mi (pc, ls, vL y :: vL x :: st, h) r := ev_step (step_of hc rfl rfl) k
theorem s_lshl {x y : Int} (hc : pm_code mi pc = some (.lshl, 1)) (k : Ev d mi (pc + 1, ls, vL (p_lshl x y) :: st, h) r) : Ev d mi (pc, ls, vI y :: vL x :: st, h) r := ev_step (step_of hc rfl rfl) k
theorem s_lcmp {x y : Int} (hc : pm_code mi pc = some (.lcmp, 1)) (k : Ev d mi (pc + 1, ls, vI (p_lcmp x y) :: st, h) r) : Ev d mi (pc, ls, vL y :: vL x :: st, h) r := ev_step (step_of hc rfl rfl) k
theorem s_lconst {v : Fin 2} {x : Int} (hc : pm_code mi pc = some (.lconst v, 1)) (hx : (Int64.ofNat v.val).toInt = x) (k : Ev d mi (pc + 1, ls, vL x :: st, h) r) : Ev d mi (pc, ls, st, h) r := ev_step (step_of hc rfl (by subst hx; rfl)) k
theorem s_iconst {v : Int} (hc : pm_code mi pc = some (.iconst v, 1)) (hv : p_cn v = true) (k : Ev d mi (pc + 1, ls, vI v :: st, h) r) : Ev d mi (pc, ls, st, h) r := ev_step (step_of hc rfl (by show p_psi v true pc 1 ls st h = _; unfold p_psi; rw [hv]; rfl)) k
theorem s_bipush {v : Int} (hc : pm_code mi pc = some (.bipush v, 2)) (hv : (decide ((Int8.ofInt v).toInt32 = p_I v) && p_cn v) = true) (k : Ev d mi (pc + 2, ls, vI v :: st, h) r) : Ev d mi (pc, ls, st, h) r := ev_step (step_of hc rfl (by show p_psi v _ pc 2 ls st h = _; unfold p_psi; rw [hv]; rfl)) k
theorem s_sipush {v : Int} (hc : pm_code mi pc = some (.sipush v, 3)) (hv : (decide ((Int16.ofInt v).toInt32 = p_I v) && p_cn v) = true) (k : Ev d mi (pc + 3, ls, vI v :: st, h) r) : Ev d mi (pc, ls, st, h) r := ev_step (step_of hc rfl (by show p_psi v _ pc 3 ls st h = _; unfold p_psi; rw [hv]; rfl)) k
theorem s_iload_n {k : Fin 4} {v : PV} (hc : pm_code mi pc = some (.iload_n k, 1)) (hv : p_ld ls k.val = some v) (ht : Nat.beq (p_tg v) 0 = true) (g : Ev d mi (pc + 1, ls, v :: st, h) r) : Ev d mi (pc, ls, st, h) r := ev_step (step_of hc rfl (by show p_lda 0 _ pc 1 ls st h = _; unfold p_lda; rw [hv]; dsimp only; rw [ht]; rfl)) g
theorem s_iload {k : Nat} {v : PV} (hc : pm_code mi pc = some (.iload k, 2)) (hv : p_ld ls k = some v) (ht : Nat.beq (p_tg v) 0 = true) (g : Ev d mi (pc + 2, ls, v :: st, h) r) : Ev d mi (pc, ls, st, h) r := ev_step (step_of hc rfl (by show p_lda 0 _ pc 2 ls st h = _; unfold p_lda; rw [hv]; dsimp only; rw [ht]; rfl)) g
theorem s_lload_n {k : Fin 4} {v : PV} (hc : pm_code mi pc = some (.lload_n k, 1)) (hv : p_ld ls k.val = some v) (ht : Nat.beq (p_tg v) 1 = true) (g : Ev d mi (pc + 1, ls, v :: st, h) r) : Ev d mi (pc, ls, st, h) r := ev_step (step_of hc rfl (by show p_lda 1 _ pc 1 ls st h = _; unfold p_lda; rw [hv]; dsimp only; rw [ht]; rfl)) g
theorem s_lload {k : Nat} {v : PV} (hc : pm_code mi pc = some (.lload k, 2)) (hv : p_ld ls k = some v) (ht : Nat.beq (p_tg v) 1 = true) (g : Ev d mi (pc + 2, ls, v :: st, h) r) : Ev d mi (pc, ls, st, h) r := ev_step (step_of hc rfl (by show p_lda 1 _ pc 2 ls st h = _; unfold p_lda; rw [hv]; dsimp only; rw [ht]; rfl)) g
theorem s_aload_n {k : Fin 4} {v : PV} (hc : pm_code mi pc = some (.aload_n k, 1)) (hv : p_ld ls k.val = some v) (ht : Nat.beq (p_tg v) 2 = true) (g : Ev d mi (pc + 1, ls, v :: st, h) r) : Ev d mi (pc, ls, st, h) r := ev_step (step_of hc rfl (by show p_lda 2 _ pc 1 ls st h = _; unfold p_lda; rw [hv]; dsimp only; rw [ht]; rfl)) g
theorem s_aload {k : Nat} {v : PV} (hc : pm_code mi pc = some (.aload k, 2)) (hv : p_ld ls k = some v) (ht : Nat.beq (p_tg v) 2 = true) (g : Ev d mi (pc + 2, ls, v :: st, h) r) : Ev d mi (pc, ls, st, h) r := ev_step (step_of hc rfl (by show p_lda 2 _ pc 2 ls st h = _; unfold p_lda; rw [hv]; dsimp only; rw [ht]; rfl)) g
theorem s_istore_n {k : Fin 4} {v : PV} (ls' : PLs) (hc : pm_code mi pc = some (.istore_n k, 1)) (hv : p_sta 0 k.val pc 1 ls (v :: st) h = p_nx pc 1 ls' st h) (g : Ev d mi (pc + 1, ls', st, h) r) : Ev d mi (pc, ls, v :: st, h) r := ev_step (step_of hc rfl hv) g
theorem s_istore {k : Nat} {v : PV} (ls' : PLs) (hc : pm_code mi pc = some (.istore k, 2)) (hv : p_sta 0 k pc 2 ls (v :: st) h = p_nx pc 2 ls' st h) (g : Ev d mi (pc + 2, ls', st, h) r) : Ev d mi (pc, ls, v :: st, h) r := ev_step (step_of hc rfl hv) g
theorem s_astore_n {k : Fin 4} {v : PV} (ls' : PLs) (hc : pm_code mi pc = some (.astore_n k, 1)) (hv : p_sta 2 k.val pc 1 ls (v :: st) h = p_nx pc 1 ls' st h) (g : Ev d mi (pc + 1, ls', st, h) r) : Ev d mi (pc, ls, v :: st, h) r := ev_step (step_of hc rfl hv) g
theorem s_astore {k : Nat} {v : PV} (ls' : PLs) (hc : pm_code mi pc = some (.astore k, 2)) (hv : p_sta 2 k pc 2 ls (v :: st) h = p_nx pc 2 ls' st h) (g : Ev d mi (pc + 2, ls', st, h) r) : Ev d mi (pc, ls, v :: st, h) r := ev_step (step_of hc rfl hv) g
theorem s_lstore_n {k : Fin 4} {v : PV} (ls' : PLs) (hc : pm_code mi pc = some (.lstore_n k, 1)) (hv : p_stl k.val pc 1 ls (v :: st) h = p_nx pc 1 ls' st h) (g : Ev d mi (pc + 1, ls', st, h) r) : Ev d mi (pc, ls, v :: st, h) r := ev_step (step_of hc rfl hv) g
theorem s_lstore {k : Nat} {v : PV} (ls' : PLs) (hc : pm_code mi pc = some (.lstore k, 2)) (hv : p_stl k pc 2 ls (v :: st) h = p_nx pc 2 ls' st h) (g : Ev d mi (pc + 2, ls', st, h) r) : Ev d mi (pc, ls, v :: st, h) r := ev_step (step_of hc rfl hv) g
theorem s_iinc {k : Nat} {v x : Int} (ls' : PLs) (hc : pm_code mi pc = some (.iinc k v, 3)) (hx : p_ld ls k = some (vI x)) (hs : p_st ls k (vI (p_add x v)) = some ls') (g : Ev d mi (pc + 3, ls', st, h) r) : Ev d mi (pc, ls, st, h) r := ev_step (step_of hc rfl (by
  show (match p_ld ls k with
    | some (.inl x) => match p_st ls k (vI (p_add x v)) with
      | some ls' => p_nx pc 3 ls' st h
      | none => none
    | _ => none) = _
  rw [hx]; dsimp only; rw [hs]; rfl)) g
theorem s_dup {v : PV} (hc : pm_code mi pc = some (.dup, 1)) (hv : Nat.beq (p_cat v) 1 = true) (k : Ev d mi (pc + 1, ls, v :: v :: st, h) r) : Ev d mi (pc, ls, v :: st, h) r := ev_step (step_of hc rfl (by show (bif Nat.beq (p_cat v) 1 then _ else none) = _; rw [hv]; rfl)) k
theorem s_pop {v : PV} (hc : pm_code mi pc = some (.pop, 1)) (hv : Nat.beq (p_cat v) 1 = true) (k : Ev d mi (pc + 1, ls, st, h) r) : Ev d mi (pc, ls, v :: st, h) r := ev_step (step_of hc rfl (by show (bif Nat.beq (p_cat v) 1 then _ else none) = _; rw [hv]; rfl)) k
theorem s_dup2 {v w : PV} (hc : pm_code mi pc = some (.dup2, 1)) (hv : (Nat.beq (p_cat v) 1 && Nat.beq (p_cat w) 1) = true) (k : Ev d mi (pc + 1, ls, v :: w :: v :: w :: st, h) r) : Ev d mi (pc, ls, v :: w :: st, h) r := ev_step (step_of hc rfl (by show (bif (Nat.beq (p_cat v) 1 && Nat.beq (p_cat w) 1) then _ else none) = _; rw [hv]; rfl)) k
theorem s_icmp_eq {x y : Int} {off : Int} (tgt : Nat) (hc : pm_code mi pc = some (.if_icmp .eq off, 3)) (ht : (decide (0 ≤ (pc : Int) + off) && Nat.beq (p_tgt pc off) tgt) = true) (kt : x = y → Ev d mi (tgt, ls, st, h) r) (kf : x ≠ y → Ev d mi (pc + 3, ls, st, h) r) : Ev d mi (pc, ls, vI y :: vI x :: st, h) r := by
  obtain ⟨h0, h1⟩ := Bool.and_eq_true_iff.mp ht
  have h1 := Nat.eq_of_beq_eq_true h1
  subst h1
  by_cases hq : p_cnd .eq x y = true
  · refine ev_step (step_of hc rfl (by show p_if (p_cnd .eq x y) pc off ls st h = _; unfold p_if; rw [h0, hq]; rfl)) (kt ?_)
    unfold p_cnd at hq
    simpa using hq
  · have hq := Bool.eq_false_iff.mpr hq
    refine ev_step (step_of hc rfl (by show p_if (p_cnd .eq x y) pc off ls st h = _; unfold p_if; rw [h0, hq]; rfl)) (kf ?_)
    unfold p_cnd at hq
    first | (simpa using hq) | (have hq := of_decide_eq_false hq; omega)
theorem s_if_eq {x : Int} {off : Int} (tgt : Nat) (hc : pm_code mi pc = some (.ifCond .eq off, 3)) (ht : (decide (0 ≤ (pc : Int) + off) && Nat.beq (p_tgt pc off) tgt) = true) (kt : x = 0 → Ev d mi (tgt, ls, st, h) r) (kf : x ≠ 0 → Ev d mi (pc + 3, ls, st, h) r) : Ev d mi (pc, ls, vI x :: st, h) r := by
  obtain ⟨h0, h1⟩ := Bool.and_eq_true_iff.mp ht
  have h1 := Nat.eq_of_beq_eq_true h1
  subst h1
  by_cases hq : p_cnd .eq x 0 = true
  · refine ev_step (step_of hc rfl (by show p_if (p_cnd .eq x 0) pc off ls st h = _; unfold p_if; rw [h0, hq]; rfl)) (kt ?_)
    unfold p_cnd at hq
    simpa using hq
  · have hq := Bool.eq_false_iff.mpr hq
    refine ev_step (step_of hc rfl (by show p_if (p_cnd .eq x 0) pc off ls st h = _; unfold p_if; rw [h0, hq]; rfl)) (kf ?_)
    unfold p_cnd at hq
    first | (simpa using hq) | (have hq := of_decide_eq_false hq; omega)
theorem s_icmp_ne {x y : Int} {off : Int} (tgt : Nat) (hc : pm_code mi pc = some (.if_icmp .ne off, 3)) (ht : (decide (0 ≤ (pc : Int) + off) && Nat.beq (p_tgt pc off) tgt) = true) (kt : x ≠ y → Ev d mi (tgt, ls, st, h) r) (kf : x = y → Ev d mi (pc + 3, ls, st, h) r) : Ev d mi (pc, ls, vI y :: vI x :: st, h) r := by
  obtain ⟨h0, h1⟩ := Bool.and_eq_true_iff.mp ht
  have h1 := Nat.eq_of_beq_eq_true h1
  subst h1
  by_cases hq : p_cnd .ne x y = true
  · refine ev_step (step_of hc rfl (by show p_if (p_cnd .ne x y) pc off ls st h = _; unfold p_if; rw [h0, hq]; rfl)) (kt ?_)
    unfold p_cnd at hq
    simpa using hq
  · have hq := Bool.eq_false_iff.mpr hq
    refine ev_step (step_of hc rfl (by show p_if (p_cnd .ne x y) pc off ls st h = _; unfold p_if; rw [h0, hq]; rfl)) (kf ?_)
    unfold p_cnd at hq
    first | (simpa using hq) | (have hq := of_decide_eq_false hq; omega)
theorem s_if_ne {x : Int} {off : Int} (tgt : Nat) (hc : pm_code mi pc = some (.ifCond .ne off, 3)) (ht : (decide (0 ≤ (pc : Int) + off) && Nat.beq (p_tgt pc off) tgt) = true) (kt : x ≠ 0 → Ev d mi (tgt, ls, st, h) r) (kf : x = 0 → Ev d mi (pc + 3, ls, st, h) r) : Ev d mi (pc, ls, vI x :: st, h) r := by
  obtain ⟨h0, h1⟩ := Bool.and_eq_true_iff.mp ht
  have h1 := Nat.eq_of_beq_eq_true h1
  subst h1
  by_cases hq : p_cnd .ne x 0 = true
  · refine ev_step (step_of hc rfl (by show p_if (p_cnd .ne x 0) pc off ls st h = _; unfold p_if; rw [h0, hq]; rfl)) (kt ?_)
    unfold p_cnd at hq
    simpa using hq
  · have hq := Bool.eq_false_iff.mpr hq
    refine ev_step (step_of hc rfl (by show p_if (p_cnd .ne x 0) pc off ls st h = _; unfold p_if; rw [h0, hq]; rfl)) (kf ?_)
    unfold p_cnd at hq
    first | (simpa using hq) | (have hq := of_decide_eq_false hq; omega)
theorem s_icmp_lt {x y : Int} {off : Int} (tgt : Nat) (hc : pm_code mi pc = some (.if_icmp .lt off, 3)) (ht : (decide (0 ≤ (pc : Int) + off) && Nat.beq (p_tgt pc off) tgt) = true) (kt : x < y → Ev d mi (tgt, ls, st, h) r) (kf : y ≤ x → Ev d mi (pc + 3, ls, st, h) r) : Ev d mi (pc, ls, vI y :: vI x :: st, h) r := by
  obtain ⟨h0, h1⟩ := Bool.and_eq_true_iff.mp ht
  have h1 := Nat.eq_of_beq_eq_true h1
  subst h1
  by_cases hq : p_cnd .lt x y = true
  · refine ev_step (step_of hc rfl (by show p_if (p_cnd .lt x y) pc off ls st h = _; unfold p_if; rw [h0, hq]; rfl)) (kt ?_)
    unfold p_cnd at hq
    simpa using hq
  · have hq := Bool.eq_false_iff.mpr hq
    refine ev_step (step_of hc rfl (by show p_if (p_cnd .lt x y) pc off ls st h = _; unfold p_if; rw [h0, hq]; rfl)) (kf ?_)
    unfold p_cnd at hq
    first | (simpa using hq) | (have hq := of_decide_eq_false hq; omega)
theorem s_if_lt {x : Int} {off : Int} (tgt : Nat) (hc : pm_code mi pc = some (.ifCond .lt off, 3)) (ht : (decide (0 ≤ (pc : Int) + off) && Nat.beq (p_tgt pc off) tgt) = true) (kt : x < 0 → Ev d mi (tgt, ls, st, h) r) (kf : 0 ≤ x → Ev d mi (pc + 3, ls, st, h) r) : Ev d mi (pc, ls, vI x :: st, h) r := by
  obtain ⟨h0, h1⟩ := Bool.and_eq_true_iff.mp ht
  have h1 := Nat.eq_of_beq_eq_true h1
  subst h1
  by_cases hq : p_cnd .lt x 0 = true
  · refine ev_step (step_of hc rfl (by show p_if (p_cnd .lt x 0) pc off ls st h = _; unfold p_if; rw [h0, hq]; rfl)) (kt ?_)
    unfold p_cnd at hq
    simpa using hq
  · have hq := Bool.eq_false_iff.mpr hq
    refine ev_step (step_of hc rfl (by show p_if (p_cnd .lt x 0) pc off ls st h = _; unfold p_if; rw [h0, hq]; rfl)) (kf ?_)
    unfold p_cnd at hq
    first | (simpa using hq) | (have hq := of_decide_eq_false hq; omega)
theorem s_icmp_ge {x y : Int} {off : Int} (tgt : Nat) (hc : pm_code mi pc = some (.if_icmp .ge off, 3)) (ht : (decide (0 ≤ (pc : Int) + off) && Nat.beq (p_tgt pc off) tgt) = true) (kt : y ≤ x → Ev d mi (tgt, ls, st, h) r) (kf : x < y → Ev d mi (pc + 3, ls, st, h) r) : Ev d mi (pc, ls, vI y :: vI x :: st, h) r := by
  obtain ⟨h0, h1⟩ := Bool.and_eq_true_iff.mp ht
  have h1 := Nat.eq_of_beq_eq_true h1
  subst h1
  by_cases hq : p_cnd .ge x y = true
  · refine ev_step (step_of hc rfl (by show p_if (p_cnd .ge x y) pc off ls st h = _; unfold p_if; rw [h0, hq]; rfl)) (kt ?_)
    unfold p_cnd at hq
    simpa using hq
  · have hq := Bool.eq_false_iff.mpr hq
    refine ev_step (step_of hc rfl (by show p_if (p_cnd .ge x y) pc off ls st h = _; unfold p_if; rw [h0, hq]; rfl)) (kf ?_)
    unfold p_cnd at hq
    first | (simpa using hq) | (have hq := of_decide_eq_false hq; omega)
theorem s_if_ge {x : Int} {off : Int} (tgt : Nat) (hc : pm_code mi pc = some (.ifCond .ge off, 3)) (ht : (decide (0 ≤ (pc : Int) + off) && Nat.beq (p_tgt pc off) tgt) = true) (kt : 0 ≤ x → Ev d mi (tgt, ls, st, h) r) (kf : x < 0 → Ev d mi (pc + 3, ls, st, h) r) : Ev d mi (pc, ls, vI x :: st, h) r := by
  obtain ⟨h0, h1⟩ := Bool.and_eq_true_iff.mp ht
  have h1 := Nat.eq_of_beq_eq_true h1
  subst h1
  by_cases hq : p_cnd .ge x 0 = true
  · refine ev_step (step_of hc rfl (by show p_if (p_cnd .ge x 0) pc off ls st h = _; unfold p_if; rw [h0, hq]; rfl)) (kt ?_)
    unfold p_cnd at hq
    simpa using hq
  · have hq := Bool.eq_false_iff.mpr hq
    refine ev_step (step_of hc rfl (by show p_if (p_cnd .ge x 0) pc off ls st h = _; unfold p_if; rw [h0, hq]; rfl)) (kf ?_)
    unfold p_cnd at hq
    first | (simpa using hq) | (have hq := of_decide_eq_false hq; omega)
theorem s_icmp_gt {x y : Int} {off : Int} (tgt : Nat) (hc : pm_code mi pc = some (.if_icmp .gt off, 3)) (ht : (decide (0 ≤ (pc : Int) + off) && Nat.beq (p_tgt pc off) tgt) = true) (kt : y < x → Ev d mi (tgt, ls, st, h) r) (kf : x ≤ y → Ev d mi (pc + 3, ls, st, h) r) : Ev d mi (pc, ls, vI y :: vI x :: st, h) r := by
  obtain ⟨h0, h1⟩ := Bool.and_eq_true_iff.mp ht
  have h1 := Nat.eq_of_beq_eq_true h1
  subst h1
  by_cases hq : p_cnd .gt x y = true
  · refine ev_step (step_of hc rfl (by show p_if (p_cnd .gt x y) pc off ls st h = _; unfold p_if; rw [h0, hq]; rfl)) (kt ?_)
    unfold p_cnd at hq
    simpa using hq
  · have hq := Bool.eq_false_iff.mpr hq
    refine ev_step (step_of hc rfl (by show p_if (p_cnd .gt x y) pc off ls st h = _; unfold p_if; rw [h0, hq]; rfl)) (kf ?_)
    unfold p_cnd at hq
    first | (simpa using hq) | (have hq := of_decide_eq_false hq; omega)
theorem s_if_gt {x : Int} {off : Int} (tgt : Nat) (hc : pm_code mi pc = some (.ifCond .gt off, 3)) (ht : (decide (0 ≤ (pc : Int) + off) && Nat.beq (p_tgt pc off) tgt) = true) (kt : 0 < x → Ev d mi (tgt, ls, st, h) r) (kf : x ≤ 0 → Ev d mi (pc + 3, ls, st, h) r) : Ev d mi (pc, ls, vI x :: st, h) r := by
  obtain ⟨h0, h1⟩ := Bool.and_eq_true_iff.mp ht
  have h1 := Nat.eq_of_beq_eq_true h1
  subst h1
  by_cases hq : p_cnd .gt x 0 = true
  · refine ev_step (step_of hc rfl (by show p_if (p_cnd .gt x 0) pc off ls st h = _; unfold p_if; rw [h0, hq]; rfl)) (kt ?_)
    unfold p_cnd at hq
    simpa using hq
  · have hq := Bool.eq_false_iff.mpr hq
    refine ev_step (step_of hc rfl (by show p_if (p_cnd .gt x 0) pc off ls st h = _; unfold p_if; rw [h0, hq]; rfl)) (kf ?_)
    unfold p_cnd at hq
    first | (simpa using hq) | (have hq := of_decide_eq_false hq; omega)
theorem s_icmp_le {x y : Int} {off : Int} (tgt : Nat) (hc : pm_code mi pc = some (.if_icmp .le off, 3)) (ht : (decide (0 ≤ (pc : Int) + off) && Nat.beq (p_tgt pc off) tgt) = true) (kt : x ≤ y → Ev d mi (tgt, ls, st, h) r) (kf : y < x → Ev d mi (pc + 3, ls, st, h) r) : Ev d mi (pc, ls, vI y :: vI x :: st, h) r := by
  obtain ⟨h0, h1⟩ := Bool.and_eq_true_iff.mp ht
  have h1 := Nat.eq_of_beq_eq_true h1
  subst h1
  by_cases hq : p_cnd .le x y = true
  · refine ev_step (step_of hc rfl (by show p_if (p_cnd .le x y) pc off ls st h = _; unfold p_if; rw [h0, hq]; rfl)) (kt ?_)
    unfold p_cnd at hq
    simpa using hq
  · have hq := Bool.eq_false_iff.mpr hq
    refine ev_step (step_of hc rfl (by show p_if (p_cnd .le x y) pc off ls st h = _; unfold p_if; rw [h0, hq]; rfl)) (kf ?_)
    unfold p_cnd at hq
    first | (simpa using hq) | (have hq := of_decide_eq_false hq; omega)
theorem s_if_le {x : Int} {off : Int} (tgt : Nat) (hc : pm_code mi pc = some (.ifCond .le off, 3)) (ht : (decide (0 ≤ (pc : Int) + off) && Nat.beq (p_tgt pc off) tgt) = true) (kt : x ≤ 0 → Ev d mi (tgt, ls, st, h) r) (kf : 0 < x → Ev d mi (pc + 3, ls, st, h) r) : Ev d mi (pc, ls, vI x :: st, h) r := by
  obtain ⟨h0, h1⟩ := Bool.and_eq_true_iff.mp ht
  have h1 := Nat.eq_of_beq_eq_true h1
  subst h1
  by_cases hq : p_cnd .le x 0 = true
  · refine ev_step (step_of hc rfl (by show p_if (p_cnd .le x 0) pc off ls st h = _; unfold p_if; rw [h0, hq]; rfl)) (kt ?_)
    unfold p_cnd at hq
    simpa using hq
  · have hq := Bool.eq_false_iff.mpr hq
    refine ev_step (step_of hc rfl (by show p_if (p_cnd .le x 0) pc off ls st h = _; unfold p_if; rw [h0, hq]; rfl)) (kf ?_)
    unfold p_cnd at hq
    first | (simpa using hq) | (have hq := of_decide_eq_false hq; omega)
theorem s_goto {off : Int} (tgt : Nat) (hc : pm_code mi pc = some (.goto off, 3)) (ht : (decide (0 ≤ (pc : Int) + off) && Nat.beq (p_tgt pc off) tgt) = true) (k : Ev d mi (tgt, ls, st, h) r) : Ev d mi (pc, ls, st, h) r := by
  obtain ⟨h0, h1⟩ := Bool.and_eq_true_iff.mp ht
  have h1 := Nat.eq_of_beq_eq_true h1
  subst h1
  exact ev_step (step_of hc rfl (by show (bif decide (0 ≤ (pc : Int) + off) then _ else none) = _; rw [h0]; rfl)) k
theorem s_ldc {ix : Nat} {v : PV} (hc : pm_code mi pc = some (.ldc ix, 2)) (hv : pm_cst mi.1 ix = some v) (k : Ev d mi (pc + 2, ls, v :: st, h) r) : Ev d mi (pc, ls, st, h) r := by
  refine ev_step (step_of hc rfl ?_) k
  show (match pm_cst mi.1 ix with
    | some v => p_nx pc 2 ls (v :: st) h
    | none => none) = _
  rw [hv]
  rfl
theorem s_ldc_w {ix : Nat} {v : PV} (hc : pm_code mi pc = some (.ldc_w ix, 3)) (hv : pm_cstw mi.1 ix = some v) (k : Ev d mi (pc + 3, ls, v :: st, h) r) : Ev d mi (pc, ls, st, h) r := by
  refine ev_step (step_of hc rfl ?_) k
  show (match pm_cstw mi.1 ix with
    | some v => p_nx pc 3 ls (v :: st) h
    | none => none) = _
  rw [hv]
  rfl
theorem s_ldc2_w {ix : Nat} {v : PV} (hc : pm_code mi pc = some (.ldc2_w ix, 3)) (hv : pm_cst2 mi.1 ix = some v) (k : Ev d mi (pc + 3, ls, v :: st, h) r) : Ev d mi (pc, ls, st, h) r := by
  refine ev_step (step_of hc rfl ?_) k
  show (match pm_cst2 mi.1 ix with
    | some v => p_nx pc 3 ls (v :: st) h
    | none => none) = _
  rw [hv]
  rfl
theorem s_getstatic {ix : Nat} {v : PV} (hc : pm_code mi pc = some (.getstatic ix, 3)) (hv : pm_gst mi.1 ix = some v) (k : Ev d mi (pc + 3, ls, v :: st, h) r) : Ev d mi (pc, ls, st, h) r := by
  refine ev_step (step_of hc rfl ?_) k
  show (match pm_gst mi.1 ix with
    | some v => p_nx pc 3 ls (v :: st) h
    | none => none) = _
  rw [hv]
  rfl
theorem s_getI {ix ci j t kd n a : Nat} {fin : Bool} (hc : pm_code mi pc = some (.getfield ix, 3)) (hf : pm_fld mi.1 ix = some (ci, j, t, fin)) (hk : ((Nat.beq kd (10 + ci) || (Nat.beq kd 6 && Nat.beq ci 0)) && (Nat.beq t 0 || Nat.beq t 1)) = true) (k : Ev d mi (pc + 3, ls, vI (h.1 a j) :: st, h) r) : Ev d mi (pc, ls, vR (some (kd, n, a)) :: st, h) r := by
  obtain ⟨h0, h1⟩ := Bool.and_eq_true_iff.mp hk
  refine ev_step (step_of hc rfl ?_) k
  show p_get mi ix pc 3 ls (vR (some (kd, n, a)) :: st) h = _
  unfold p_get
  rw [hf]
  dsimp only
  rw [h0]
  rcases Bool.or_eq_true_iff.mp h1 with z | z <;> (have z := Nat.eq_of_beq_eq_true z; subst z; rfl)
theorem s_getL {ix ci j t kd n a : Nat} {fin : Bool} (hc : pm_code mi pc = some (.getfield ix, 3)) (hf : pm_fld mi.1 ix = some (ci, j, t, fin)) (hk : ((Nat.beq kd (10 + ci) || (Nat.beq kd 6 && Nat.beq ci 0)) && Nat.beq t 2) = true) (k : Ev d mi (pc + 3, ls, vL (h.1 a j) :: st, h) r) : Ev d mi (pc, ls, vR (some (kd, n, a)) :: st, h) r := by
  obtain ⟨h0, h1⟩ := Bool.and_eq_true_iff.mp hk
  refine ev_step (step_of hc rfl ?_) k
  show p_get mi ix pc 3 ls (vR (some (kd, n, a)) :: st) h = _
  unfold p_get
  rw [hf]
  dsimp only
  rw [h0]
  have z := Nat.eq_of_beq_eq_true h1; subst z
  rfl
theorem s_getR {ix ci j t kd n a : Nat} {fin : Bool} {v : Rf} (hc : pm_code mi pc = some (.getfield ix, 3)) (hf : pm_fld mi.1 ix = some (ci, j, t, fin)) (hk : ((Nat.beq kd (10 + ci) || (Nat.beq kd 6 && Nat.beq ci 0)) && Nat.beq t 3) = true) (hv : h.2.1 a j = v) (k : Ev d mi (pc + 3, ls, vR v :: st, h) r) : Ev d mi (pc, ls, vR (some (kd, n, a)) :: st, h) r := by
  obtain ⟨h0, h1⟩ := Bool.and_eq_true_iff.mp hk
  refine ev_step (step_of hc rfl ?_) k
  show p_get mi ix pc 3 ls (vR (some (kd, n, a)) :: st) h = _
  unfold p_get
  rw [hf]
  dsimp only
  rw [h0]
  have z := Nat.eq_of_beq_eq_true h1; subst z; subst hv
  rfl
theorem s_putI {ix ci j kd n a : Nat} {fin : Bool} {x : Int} (hc : pm_code mi pc = some (.putfield ix, 3)) (hf : pm_fld mi.1 ix = some (ci, j, 0, fin)) (hk : (Nat.beq kd (10 + ci) && !(Nat.beq ci 0) && (!fin || (Nat.beq mi.2 0 && Nat.beq ((pl_at pm_oci mi.1).getD 99) ci))) = true) (k : Ev d mi (pc + 3, ls, st, m_si h a j x) r) : Ev d mi (pc, ls, vI x :: vR (some (kd, n, a)) :: st, h) r := by
  refine ev_step (step_of hc rfl ?_) k
  show p_put mi ix pc 3 ls (vI x :: vR (some (kd, n, a)) :: st) h = _
  unfold p_put
  rw [hf]
  dsimp only
  rw [hk]
  rfl
theorem s_putZ {ix ci j kd n a : Nat} {fin : Bool} {x : Int} (hc : pm_code mi pc = some (.putfield ix, 3)) (hf : pm_fld mi.1 ix = some (ci, j, 1, fin)) (hk : (Nat.beq kd (10 + ci) && !(Nat.beq ci 0) && (!fin || (Nat.beq mi.2 0 && Nat.beq ((pl_at pm_oci mi.1).getD 99) ci))) = true) (hx : x = 0 ∨ x = 1) (k : Ev d mi (pc + 3, ls, st, m_si h a j x) r) : Ev d mi (pc, ls, vI x :: vR (some (kd, n, a)) :: st, h) r := by
  refine ev_step (step_of hc rfl ?_) k
  show p_put mi ix pc 3 ls (vI x :: vR (some (kd, n, a)) :: st) h = _
  unfold p_put
  rw [hf]
  dsimp only
  rw [hk]
  rcases hx with rfl | rfl <;> rfl
theorem s_putL {ix ci j kd n a : Nat} {fin : Bool} {x : Int} (hc : pm_code mi pc = some (.putfield ix, 3)) (hf : pm_fld mi.1 ix = some (ci, j, 2, fin)) (hk : (Nat.beq kd (10 + ci) && !(Nat.beq ci 0) && (!fin || (Nat.beq mi.2 0 && Nat.beq ((pl_at pm_oci mi.1).getD 99) ci))) = true) (k : Ev d mi (pc + 3, ls, st, m_si h a j x) r) : Ev d mi (pc, ls, vL x :: vR (some (kd, n, a)) :: st, h) r := by
  refine ev_step (step_of hc rfl ?_) k
  show p_put mi ix pc 3 ls (vL x :: vR (some (kd, n, a)) :: st) h = _
  unfold p_put
  rw [hf]
  dsimp only
  rw [hk]
  rfl
theorem s_putR {ix ci j kd n a : Nat} {fin : Bool} {x : Rf} (hc : pm_code mi pc = some (.putfield ix, 3)) (hf : pm_fld mi.1 ix = some (ci, j, 3, fin)) (hk : (Nat.beq kd (10 + ci) && !(Nat.beq ci 0) && (!fin || (Nat.beq mi.2 0 && Nat.beq ((pl_at pm_oci mi.1).getD 99) ci))) = true) (k : Ev d mi (pc + 3, ls, st, m_sr h a j x) r) : Ev d mi (pc, ls, vR x :: vR (some (kd, n, a)) :: st, h) r := by
  refine ev_step (step_of hc rfl ?_) k
  show p_put mi ix pc 3 ls (vR x :: vR (some (kd, n, a)) :: st) h = _
  unfold p_put
  rw [hf]
  dsimp only
  rw [hk]
  rfl
theorem p_in_of {i : Int} {n : Nat} (h : 0 ≤ i ∧ i < n) : p_in i n = true := by unfold p_in; rw [decide_eq_true h.1, decide_eq_true h.2]; rfl
theorem p_lit {k n : Nat} (h : k < n) : 0 ≤ (k : Int) ∧ (k : Int) < n := ⟨Int.natCast_nonneg k, Int.ofNat_lt.mpr h⟩
theorem s_iald {kd n a : Nat} {i : Int} (hc : pm_code mi pc = some (.iaload, 1)) (hk : (Nat.beq kd 0 || Nat.beq kd 5) = true) (hin : 0 ≤ i ∧ i < n) (k : Ev d mi (pc + 1, ls, vI (h.1 a i.toNat) :: st, h) r) : Ev d mi (pc, ls, vI i :: vR (some (kd, n, a)) :: st, h) r := by
  refine ev_step (step_of hc rfl ?_) k
  show p_ald 0 5 0 pc ls (vI i :: vR (some (kd, n, a)) :: st) h = _
  unfold p_ald
  dsimp only
  rw [hk, p_in_of hin]
  rfl
theorem s_bald {kd n a : Nat} {i : Int} (hc : pm_code mi pc = some (.baload, 1)) (hk : (Nat.beq kd 1 || Nat.beq kd 7) = true) (hin : 0 ≤ i ∧ i < n) (k : Ev d mi (pc + 1, ls, vI (h.1 a i.toNat) :: st, h) r) : Ev d mi (pc, ls, vI i :: vR (some (kd, n, a)) :: st, h) r := by
  refine ev_step (step_of hc rfl ?_) k
  show p_ald 1 7 0 pc ls (vI i :: vR (some (kd, n, a)) :: st) h = _
  unfold p_ald
  dsimp only
  rw [hk, p_in_of hin]
  rfl
theorem s_lald {kd n a : Nat} {i : Int} (hc : pm_code mi pc = some (.laload, 1)) (hk : (Nat.beq kd 2 || Nat.beq kd 2) = true) (hin : 0 ≤ i ∧ i < n) (k : Ev d mi (pc + 1, ls, vL (h.1 a i.toNat) :: st, h) r) : Ev d mi (pc, ls, vI i :: vR (some (kd, n, a)) :: st, h) r := by
  refine ev_step (step_of hc rfl ?_) k
  show p_ald 2 2 2 pc ls (vI i :: vR (some (kd, n, a)) :: st) h = _
  unfold p_ald
  dsimp only
  rw [hk, p_in_of hin]
  rfl
theorem s_aald {kd n a : Nat} {i : Int} {v : Rf} (hc : pm_code mi pc = some (.aaload, 1)) (hk : (Nat.beq kd 3 || Nat.beq kd 4) = true) (hin : 0 ≤ i ∧ i < n) (hv : h.2.1 a i.toNat = v) (k : Ev d mi (pc + 1, ls, vR v :: st, h) r) : Ev d mi (pc, ls, vI i :: vR (some (kd, n, a)) :: st, h) r := by
  refine ev_step (step_of hc rfl ?_) k
  show p_ald 3 4 3 pc ls (vI i :: vR (some (kd, n, a)) :: st) h = _
  unfold p_ald
  dsimp only
  rw [hk, p_in_of hin]
  subst hv; rfl
theorem s_iast {n a : Nat} {i x : Int} (hc : pm_code mi pc = some (.iastore, 1)) (hin : 0 ≤ i ∧ i < n) (k : Ev d mi (pc + 1, ls, st, m_si h a i.toNat x) r) : Ev d mi (pc, ls, vI x :: vI i :: vR (some (0, n, a)) :: st, h) r := by
  refine ev_step (step_of hc rfl ?_) k
  show p_iast pc ls (vI x :: vI i :: vR (some (0, n, a)) :: st) h = _
  unfold p_iast
  dsimp only
  rw [p_in_of hin]
  rfl
theorem s_bast {n a : Nat} {i x : Int} (hc : pm_code mi pc = some (.bastore, 1)) (hin : 0 ≤ i ∧ i < n) (k : Ev d mi (pc + 1, ls, st, m_si h a i.toNat (p_i2b x)) r) : Ev d mi (pc, ls, vI x :: vI i :: vR (some (1, n, a)) :: st, h) r := by
  refine ev_step (step_of hc rfl ?_) k
  show p_bast pc ls (vI x :: vI i :: vR (some (1, n, a)) :: st) h = _
  unfold p_bast
  dsimp only
  rw [p_in_of hin]
  rfl
theorem s_last {n a : Nat} {i x : Int} (hc : pm_code mi pc = some (.lastore, 1)) (hin : 0 ≤ i ∧ i < n) (k : Ev d mi (pc + 1, ls, st, m_si h a i.toNat x) r) : Ev d mi (pc, ls, vL x :: vI i :: vR (some (2, n, a)) :: st, h) r := by
  refine ev_step (step_of hc rfl ?_) k
  show p_last pc ls (vL x :: vI i :: vR (some (2, n, a)) :: st) h = _
  unfold p_last
  dsimp only
  rw [p_in_of hin]
  rfl
theorem s_aast {kd k2 n n2 a b : Nat} {i : Int} (hc : pm_code mi pc = some (.aastore, 1)) (hk : ((Nat.beq kd 3 && Nat.beq k2 14) || (Nat.beq kd 4 && Nat.beq k2 16)) = true) (hin : 0 ≤ i ∧ i < n) (k : Ev d mi (pc + 1, ls, st, m_sr h a i.toNat (some (k2, n2, b))) r) : Ev d mi (pc, ls, vR (some (k2, n2, b)) :: vI i :: vR (some (kd, n, a)) :: st, h) r := by
  refine ev_step (step_of hc rfl ?_) k
  show p_aast pc ls (vR (some (k2, n2, b)) :: vI i :: vR (some (kd, n, a)) :: st) h = _
  unfold p_aast
  dsimp only
  rw [hk, p_in_of hin]
  rfl
theorem s_alen {kd n a : Nat} (hc : pm_code mi pc = some (.arraylength, 1)) (hk : (Nat.ble kd 5 || Nat.beq kd 7) = true) (hn : n ≤ 100000) (k : Ev d mi (pc + 1, ls, vI n :: st, h) r) : Ev d mi (pc, ls, vR (some (kd, n, a)) :: st, h) r := by
  refine ev_step (step_of hc rfl ?_) k
  show p_alen pc ls (vR (some (kd, n, a)) :: st) h = _
  unfold p_alen
  dsimp only
  rw [hk, decide_eq_true hn]
  rfl
theorem s_mm {ix k0 a b rk : Nat} {x y : Int} {f : Int → Int → Int} (hc : pm_code mi pc = some (.invokestatic ix, 3)) (hm : pm_mth mi.1 ix = some (k0, a, b, rk)) (hk : (k0 = 8 ∧ f = p_max) ∨ (k0 = 9 ∧ f = p_min)) (hr : p_room st = true) (k : Ev d mi (pc + 3, ls, vI (f x y) :: st, h) r) : Ev d mi (pc, ls, vI y :: vI x :: st, h) r := by
  refine ev_step (step_of hc rfl ?_) k
  show p_static mi ix pc ls (vI y :: vI x :: st) h = _
  unfold p_static
  rw [hm]
  dsimp only
  rcases hk with ⟨rfl, rfl⟩ | ⟨rfl, rfl⟩ <;> (show p_mm _ pc ls (vI y :: vI x :: st) h = _; unfold p_mm; dsimp only; rw [hr]; rfl)
theorem s_ret {x : Int} (hc : pm_code mi pc = some (.ireturn, 1)) (hr : p_reti (p_rt mi) x = true) : Ev d mi (pc, ls, [vI x], h) (.inl (some (vI x)), h) := ev_end (step_of hc rfl (by show (bif p_reti (p_rt mi) x then _ else none) = _; rw [hr]; rfl))
theorem s_retz {x : Int} (hc : pm_code mi pc = some (.ireturn, 1)) (hr : p_rt mi = some .boolean) (hb : x = 0 ∨ x = 1) : Ev d mi (pc, ls, [vI x], h) (.inl (some (vI x)), h) := s_ret hc (by rw [hr]; rcases hb with rfl | rfl <;> rfl)
theorem s_lret {x : Int} (hc : pm_code mi pc = some (.lreturn, 1)) (hr : p_retl (p_rt mi) = true) : Ev d mi (pc, ls, [vL x], h) (.inl (some (vL x)), h) := ev_end (step_of hc rfl (by show (bif p_retl (p_rt mi) then _ else none) = _; rw [hr]; rfl))
theorem s_aret {x : Rf} (hc : pm_code mi pc = some (.areturn, 1)) (hr : p_retr (p_rt mi) = true) : Ev d mi (pc, ls, [vR x], h) (.inl (some (vR x)), h) := ev_end (step_of hc rfl (by show (bif p_retr (p_rt mi) then _ else none) = _; rw [hr]; rfl))
theorem s_vret (hc : pm_code mi pc = some (.return_, 1)) (hr : (p_rt mi).isNone = true) : Ev d mi (pc, ls, [], h) (.inl none, h) := ev_end (step_of hc rfl (by show (bif (p_rt mi).isNone then _ else none) = _; rw [hr]; rfl))

theorem s_csI {ix k0 a b rk : Nat} {inf : PInf} {stk av : List PV} {h1 : PM} {x : Int} (hc : pm_code mi pc = some (.invokestatic ix, 3)) (hm : pm_mth mi.1 ix = some (k0, a, b, rk)) (hk : (Nat.beq k0 1 || Nat.beq k0 2) = true) (hi : pm_inf (a, b) = some inf) (hp : p_pop inf.2.2.2.2.2.1 [] stk = some (av, st)) (hr : p_room st = true) (c : Ca d (a, b) av h (.inl (some (vI x))) h1) (k : Ev (d + 1) mi (pc + 3, ls, vI x :: st, h1) r) : Ev (d + 1) mi (pc, ls, stk, h) r := by
  refine ev_call (mj := (a, b)) (av := av) (pc := pc) (ls := ls) (st := st) (h := h) (step_of hc rfl ?_) c k
  show p_static mi ix pc ls stk h = _
  unfold p_static
  rw [hm]
  have e : (k0 = 1 ∨ k0 = 2) := by
    rcases Bool.or_eq_true_iff.mp hk with z | z
    · exact Or.inl (Nat.eq_of_beq_eq_true z)
    · exact Or.inr (Nat.eq_of_beq_eq_true z)
  obtain ⟨i1, i2, i3, i4, i5, na, i7⟩ := inf
  have hp : p_pop na [] stk = some (av, st) := hp
  rcases e with rfl | rfl <;> (show p_call true rk (a, b) pc ls stk h = _; unfold p_call; rw [hi]; dsimp only [cond_true]; rw [hp]; dsimp only; rw [hr]; rfl)
theorem s_cvI {ix a b rk n0 a0 : Nat} {inf : PInf} {stk av : List PV} {h1 : PM} {x : Int} (hc : pm_code mi pc = some (.invokevirtual ix, 3)) (hm : pm_mth mi.1 ix = some (0, a, b, rk)) (hi : pm_inf (a, b) = some inf) (hp : p_pop (inf.2.2.2.2.2.1 + 1) [] stk = some (vR (some (rk, n0, a0)) :: av, st)) (hr : p_room st = true) (c : Ca d (a, b) (vR (some (rk, n0, a0)) :: av) h (.inl (some (vI x))) h1) (k : Ev (d + 1) mi (pc + 3, ls, vI x :: st, h1) r) : Ev (d + 1) mi (pc, ls, stk, h) r := by
  refine ev_call (mj := (a, b)) (av := vR (some (rk, n0, a0)) :: av) (pc := pc) (ls := ls) (st := st) (h := h) (step_of hc rfl ?_) c k
  show p_invk (fun k => Nat.beq k 0) mi ix pc ls stk h = _
  unfold p_invk
  rw [hm]
  obtain ⟨i1, i2, i3, i4, i5, na, i7⟩ := inf
  have hp : p_pop (na + 1) [] stk = some (vR (some (rk, n0, a0)) :: av, st) := hp
  show p_call false rk (a, b) pc ls stk h = _
  unfold p_call; rw [hi]; dsimp only [cond_false]; rw [hp]; dsimp only; rw [hr, Nat.beq_refl]; rfl
theorem s_csL {ix k0 a b rk : Nat} {inf : PInf} {stk av : List PV} {h1 : PM} {x : Int} (hc : pm_code mi pc = some (.invokestatic ix, 3)) (hm : pm_mth mi.1 ix = some (k0, a, b, rk)) (hk : (Nat.beq k0 1 || Nat.beq k0 2) = true) (hi : pm_inf (a, b) = some inf) (hp : p_pop inf.2.2.2.2.2.1 [] stk = some (av, st)) (hr : p_room st = true) (c : Ca d (a, b) av h (.inl (some (vL x))) h1) (k : Ev (d + 1) mi (pc + 3, ls, vL x :: st, h1) r) : Ev (d + 1) mi (pc, ls, stk, h) r := by
  refine ev_call (mj := (a, b)) (av := av) (pc := pc) (ls := ls) (st := st) (h := h) (step_of hc rfl ?_) c k
  show p_static mi ix pc ls stk h = _
  unfold p_static
  rw [hm]
  have e : (k0 = 1 ∨ k0 = 2) := by
    rcases Bool.or_eq_true_iff.mp hk with z | z
    · exact Or.inl (Nat.eq_of_beq_eq_true z)
    · exact Or.inr (Nat.eq_of_beq_eq_true z)
  obtain ⟨i1, i2, i3, i4, i5, na, i7⟩ := inf
  have hp : p_pop na [] stk = some (av, st) := hp
  rcases e with rfl | rfl <;> (show p_call true rk (a, b) pc ls stk h = _; unfold p_call; rw [hi]; dsimp only [cond_true]; rw [hp]; dsimp only; rw [hr]; rfl)
theorem s_cvL {ix a b rk n0 a0 : Nat} {inf : PInf} {stk av : List PV} {h1 : PM} {x : Int} (hc : pm_code mi pc = some (.invokevirtual ix, 3)) (hm : pm_mth mi.1 ix = some (0, a, b, rk)) (hi : pm_inf (a, b) = some inf) (hp : p_pop (inf.2.2.2.2.2.1 + 1) [] stk = some (vR (some (rk, n0, a0)) :: av, st)) (hr : p_room st = true) (c : Ca d (a, b) (vR (some (rk, n0, a0)) :: av) h (.inl (some (vL x))) h1) (k : Ev (d + 1) mi (pc + 3, ls, vL x :: st, h1) r) : Ev (d + 1) mi (pc, ls, stk, h) r := by
  refine ev_call (mj := (a, b)) (av := vR (some (rk, n0, a0)) :: av) (pc := pc) (ls := ls) (st := st) (h := h) (step_of hc rfl ?_) c k
  show p_invk (fun k => Nat.beq k 0) mi ix pc ls stk h = _
  unfold p_invk
  rw [hm]
  obtain ⟨i1, i2, i3, i4, i5, na, i7⟩ := inf
  have hp : p_pop (na + 1) [] stk = some (vR (some (rk, n0, a0)) :: av, st) := hp
  show p_call false rk (a, b) pc ls stk h = _
  unfold p_call; rw [hi]; dsimp only [cond_false]; rw [hp]; dsimp only; rw [hr, Nat.beq_refl]; rfl
theorem s_csR {ix k0 a b rk : Nat} {inf : PInf} {stk av : List PV} {h1 : PM} {x : Rf} (hc : pm_code mi pc = some (.invokestatic ix, 3)) (hm : pm_mth mi.1 ix = some (k0, a, b, rk)) (hk : (Nat.beq k0 1 || Nat.beq k0 2) = true) (hi : pm_inf (a, b) = some inf) (hp : p_pop inf.2.2.2.2.2.1 [] stk = some (av, st)) (hr : p_room st = true) (c : Ca d (a, b) av h (.inl (some (vR x))) h1) (k : Ev (d + 1) mi (pc + 3, ls, vR x :: st, h1) r) : Ev (d + 1) mi (pc, ls, stk, h) r := by
  refine ev_call (mj := (a, b)) (av := av) (pc := pc) (ls := ls) (st := st) (h := h) (step_of hc rfl ?_) c k
  show p_static mi ix pc ls stk h = _
  unfold p_static
  rw [hm]
  have e : (k0 = 1 ∨ k0 = 2) := by
    rcases Bool.or_eq_true_iff.mp hk with z | z
    · exact Or.inl (Nat.eq_of_beq_eq_true z)
    · exact Or.inr (Nat.eq_of_beq_eq_true z)
  obtain ⟨i1, i2, i3, i4, i5, na, i7⟩ := inf
  have hp : p_pop na [] stk = some (av, st) := hp
  rcases e with rfl | rfl <;> (show p_call true rk (a, b) pc ls stk h = _; unfold p_call; rw [hi]; dsimp only [cond_true]; rw [hp]; dsimp only; rw [hr]; rfl)
theorem s_cvR {ix a b rk n0 a0 : Nat} {inf : PInf} {stk av : List PV} {h1 : PM} {x : Rf} (hc : pm_code mi pc = some (.invokevirtual ix, 3)) (hm : pm_mth mi.1 ix = some (0, a, b, rk)) (hi : pm_inf (a, b) = some inf) (hp : p_pop (inf.2.2.2.2.2.1 + 1) [] stk = some (vR (some (rk, n0, a0)) :: av, st)) (hr : p_room st = true) (c : Ca d (a, b) (vR (some (rk, n0, a0)) :: av) h (.inl (some (vR x))) h1) (k : Ev (d + 1) mi (pc + 3, ls, vR x :: st, h1) r) : Ev (d + 1) mi (pc, ls, stk, h) r := by
  refine ev_call (mj := (a, b)) (av := vR (some (rk, n0, a0)) :: av) (pc := pc) (ls := ls) (st := st) (h := h) (step_of hc rfl ?_) c k
  show p_invk (fun k => Nat.beq k 0) mi ix pc ls stk h = _
  unfold p_invk
  rw [hm]
  obtain ⟨i1, i2, i3, i4, i5, na, i7⟩ := inf
  have hp : p_pop (na + 1) [] stk = some (vR (some (rk, n0, a0)) :: av, st) := hp
  show p_call false rk (a, b) pc ls stk h = _
  unfold p_call; rw [hi]; dsimp only [cond_false]; rw [hp]; dsimp only; rw [hr, Nat.beq_refl]; rfl
theorem s_csV {ix k0 a b rk : Nat} {inf : PInf} {stk av : List PV} {h1 : PM} (hc : pm_code mi pc = some (.invokestatic ix, 3)) (hm : pm_mth mi.1 ix = some (k0, a, b, rk)) (hk : (Nat.beq k0 1 || Nat.beq k0 2) = true) (hi : pm_inf (a, b) = some inf) (hp : p_pop inf.2.2.2.2.2.1 [] stk = some (av, st)) (hr : p_room st = true) (c : Ca d (a, b) av h (.inl (none)) h1) (k : Ev (d + 1) mi (pc + 3, ls, st, h1) r) : Ev (d + 1) mi (pc, ls, stk, h) r := by
  refine ev_call (mj := (a, b)) (av := av) (pc := pc) (ls := ls) (st := st) (h := h) (step_of hc rfl ?_) c k
  show p_static mi ix pc ls stk h = _
  unfold p_static
  rw [hm]
  have e : (k0 = 1 ∨ k0 = 2) := by
    rcases Bool.or_eq_true_iff.mp hk with z | z
    · exact Or.inl (Nat.eq_of_beq_eq_true z)
    · exact Or.inr (Nat.eq_of_beq_eq_true z)
  obtain ⟨i1, i2, i3, i4, i5, na, i7⟩ := inf
  have hp : p_pop na [] stk = some (av, st) := hp
  rcases e with rfl | rfl <;> (show p_call true rk (a, b) pc ls stk h = _; unfold p_call; rw [hi]; dsimp only [cond_true]; rw [hp]; dsimp only; rw [hr]; rfl)
theorem s_cvV {ix a b rk n0 a0 : Nat} {inf : PInf} {stk av : List PV} {h1 : PM} (hc : pm_code mi pc = some (.invokevirtual ix, 3)) (hm : pm_mth mi.1 ix = some (0, a, b, rk)) (hi : pm_inf (a, b) = some inf) (hp : p_pop (inf.2.2.2.2.2.1 + 1) [] stk = some (vR (some (rk, n0, a0)) :: av, st)) (hr : p_room st = true) (c : Ca d (a, b) (vR (some (rk, n0, a0)) :: av) h (.inl (none)) h1) (k : Ev (d + 1) mi (pc + 3, ls, st, h1) r) : Ev (d + 1) mi (pc, ls, stk, h) r := by
  refine ev_call (mj := (a, b)) (av := vR (some (rk, n0, a0)) :: av) (pc := pc) (ls := ls) (st := st) (h := h) (step_of hc rfl ?_) c k
  show p_invk (fun k => Nat.beq k 0) mi ix pc ls stk h = _
  unfold p_invk
  rw [hm]
  obtain ⟨i1, i2, i3, i4, i5, na, i7⟩ := inf
  have hp : p_pop (na + 1) [] stk = some (vR (some (rk, n0, a0)) :: av, st) := hp
  show p_call false rk (a, b) pc ls stk h = _
  unfold p_call; rw [hi]; dsimp only [cond_false]; rw [hp]; dsimp only; rw [hr, Nat.beq_refl]; rfl
theorem s_ci {ix k0 a b rk n0 a0 : Nat} {inf : PInf} {stk av : List PV} {h1 : PM} (hc : pm_code mi pc = some (.invokespecial ix, 3)) (hm : pm_mth mi.1 ix = some (k0, a, b, rk)) (hk : (Nat.beq k0 3 || Nat.beq k0 4) = true) (hi : pm_inf (a, b) = some inf) (hp : p_pop (inf.2.2.2.2.2.1 + 1) [] stk = some (vR (some (rk, n0, a0)) :: av, st)) (hr : p_room st = true) (c : Ca d (a, b) (vR (some (rk, n0, a0)) :: av) h (.inl none) h1) (k : Ev (d + 1) mi (pc + 3, ls, st, h1) r) : Ev (d + 1) mi (pc, ls, stk, h) r := by
  refine ev_call (mj := (a, b)) (av := vR (some (rk, n0, a0)) :: av) (pc := pc) (ls := ls) (st := st) (h := h) (step_of hc rfl ?_) c k
  show p_special mi ix pc ls stk h = _
  unfold p_special
  rw [hm]
  have e : (k0 = 3 ∨ k0 = 4) := by
    rcases Bool.or_eq_true_iff.mp hk with z | z
    · exact Or.inl (Nat.eq_of_beq_eq_true z)
    · exact Or.inr (Nat.eq_of_beq_eq_true z)
  obtain ⟨i1, i2, i3, i4, i5, na, i7⟩ := inf
  have hp : p_pop (na + 1) [] stk = some (vR (some (rk, n0, a0)) :: av, st) := hp
  rcases e with rfl | rfl <;> (show p_call false rk (a, b) pc ls stk h = _; unfold p_call; rw [hi]; dsimp only [cond_false]; rw [hp]; dsimp only; rw [hr, Nat.beq_refl]; rfl)
theorem s_obj {ix a b rk kd n0 a0 : Nat} (hc : pm_code mi pc = some (.invokespecial ix, 3)) (hm : pm_mth mi.1 ix = some (5, a, b, rk)) (hk : (!(Nat.beq kd 8) && p_room st) = true) (k : Ev d mi (pc + 3, ls, st, h) r) : Ev d mi (pc, ls, vR (some (kd, n0, a0)) :: st, h) r := by
  refine ev_step (step_of hc rfl ?_) k
  show p_special mi ix pc ls (vR (some (kd, n0, a0)) :: st) h = _
  unfold p_special
  rw [hm]
  show (bif !(Nat.beq kd 8) && p_room st then _ else none) = _
  rw [hk]
  rfl
theorem s_new {ix ci N : Nat} (hc : pm_code mi pc = some (.new ix, 3)) (hn : pm_newc mi.1 ix = some (0, ci, N)) (k : Ev d mi (pc + 3, ls, vR (some (10 + ci, 0, m_sz h)) :: st, m_new h (10 + ci) 0 N) r) : Ev d mi (pc, ls, st, h) r := by
  refine ev_step (step_of hc rfl ?_) k
  show p_new mi ix pc ls st h = _
  unfold p_new
  rw [hn]
  rfl
theorem s_throw {ix ic e x y z : Nat} (hc : pm_code mi pc = some (.new ix, 3)) (hn : pm_newc mi.1 ix = some (1, e, x)) (h3 : pm_code mi (pc + 3) = some (.dup, 1)) (h4 : pm_code mi (pc + 4) = some (.invokespecial ic, 3)) (h7 : pm_code mi (pc + 7) = some (.athrow, 1)) (hm : pm_mth mi.1 ic = some (7, e, y, z)) (hr : (p_room st && p_notab mi) = true) : Ev d mi (pc, ls, st, h) (.inr e, m_exc h) := by
  refine ev_end (step_of hc rfl ?_)
  obtain ⟨r1, r2⟩ := Bool.and_eq_true_iff.mp hr
  show p_new mi ix pc ls st h = _
  unfold p_new
  rw [hn]
  show (match pm_code mi (pc + 3), pm_code mi (pc + 4), pm_code mi (pc + 7) with
    | some (.dup, 1), some (.invokespecial ic, 3), some (.athrow, 1) => match pm_mth mi.1 ic with
      | some (k, e', _, _) => bif Nat.beq k 7 && Nat.beq e e' && p_room st && p_notab mi then some (Sum.inr (Sum.inr (Sum.inr e, m_exc h)) : PR) else none
      | none => none
    | _, _, _ => none) = _
  rw [h3, h4, h7]
  show (match pm_mth mi.1 ic with
      | some (k, e', _, _) => bif Nat.beq k 7 && Nat.beq e e' && p_room st && p_notab mi then some (Sum.inr (Sum.inr (Sum.inr e, m_exc h)) : PR) else none
      | none => none) = _
  rw [hm]
  show (bif Nat.beq 7 7 && Nat.beq e e && p_room st && p_notab mi then some (Sum.inr (Sum.inr (Sum.inr e, m_exc h)) : PR) else none) = _
  rw [Nat.beq_refl, Nat.beq_refl, r1, r2]
  rfl
theorem s_newa {kd : Nat} {n : Nat} {ty : ArrayType} (hc : pm_code mi pc = some (.newarray ty, 2)) (hk : (ty = .int ∧ kd = 0) ∨ (ty = .byte ∧ kd = 1) ∨ (ty = .long ∧ kd = 2)) (hn : n ≤ 100000) (k : Ev d mi (pc + 2, ls, vR (some (kd, n, m_sz h)) :: st, m_new h kd n n) r) : Ev d mi (pc, ls, vI n :: st, h) r := by
  have e : p_newa kd pc 2 ls (vI n :: st) h = some (.inl (pc + 2, ls, vR (some (kd, n, m_sz h)) :: st, m_new h kd n n)) := by
    unfold p_newa
    dsimp only
    rw [decide_eq_true (Int.natCast_nonneg n), decide_eq_true (show (n : Int) ≤ 100000 by omega)]
    rfl
  rcases hk with ⟨rfl, rfl⟩ | ⟨rfl, rfl⟩ | ⟨rfl, rfl⟩ <;> exact ev_step (step_of hc rfl e) k
theorem s_anew {ix kd n : Nat} (hc : pm_code mi pc = some (.anewarray ix, 3)) (hk : pm_newr mi.1 ix = some kd) (hn : n ≤ 100000) (k : Ev d mi (pc + 3, ls, vR (some (kd, n, m_sz h)) :: st, m_new h kd n n) r) : Ev d mi (pc, ls, vI n :: st, h) r := by
  refine ev_step (step_of hc rfl ?_) k
  show (match pm_newr mi.1 ix with
    | some kd => p_newa kd pc 3 ls (vI n :: st) h
    | none => none) = _
  rw [hk]
  dsimp only
  unfold p_newa
  dsimp only
  rw [decide_eq_true (Int.natCast_nonneg n), decide_eq_true (show (n : Int) ≤ 100000 by omega)]
  rfl
theorem s_copy {ix a b rk n0 n1 a0 b0 : Nat} {n dp sp : Int} (hc : pm_code mi pc = some (.invokestatic ix, 3)) (hm : pm_mth mi.1 ix = some (6, a, b, rk)) (h1 : 0 ≤ sp) (h2 : 0 ≤ dp) (h3 : 0 ≤ n) (h4 : sp + n ≤ n0) (h5 : dp + n ≤ n1) (hr : p_room st = true) (k : Ev d mi (pc + 3, ls, st, m_cpy h a0 sp.toNat b0 dp.toNat n.toNat) r) : Ev d mi (pc, ls, vI n :: vI dp :: vR (some (0, n1, b0)) :: vI sp :: vR (some (0, n0, a0)) :: st, h) r := by
  refine ev_step (step_of hc rfl ?_) k
  show p_static mi ix pc ls _ h = _
  unfold p_static
  rw [hm]
  show p_copy pc ls (vI n :: vI dp :: vR (some (0, n1, b0)) :: vI sp :: vR (some (0, n0, a0)) :: st) h = _
  unfold p_copy
  dsimp only
  rw [decide_eq_true h1, decide_eq_true h2, decide_eq_true h3, decide_eq_true h4, decide_eq_true h5, hr]
  rfl
end
end
