noncomputable section
/-! ===== one step of the pure machine ===== -/
def pl_find {α : Type} : List (Nat × α) → Nat → Option α
  | [], _ => none
  | (k, v) :: t, j => bif Nat.beq k j then some v else pl_find t j
def pl_at {α : Type} : List α → Nat → Option α
  | [], _ => none
  | a :: _, 0 => some a
  | _ :: t, n + 1 => pl_at t n
def pm_tab (mi : Nat × Nat) : List (List (Nat × Instr × Nat)) := ((pl_at pm_tabs mi.1).bind (fun l => pl_at l mi.2)).getD []
def pm_code (mi : Nat × Nat) (pc : Nat) : Option (Instr × Nat) := (pl_at (pm_tab mi) (pc / 32)).bind (fun l => pl_find l pc)
def pm_inf (mi : Nat × Nat) : Option PInf := (pl_at pm_infs mi.1).bind (fun l => pl_at l mi.2)
def pm_fld (oi ix : Nat) : Option (Nat × Nat × Nat × Bool) := (pl_at pm_fls oi).bind (fun l => pl_find l ix)
def pm_mth (oi ix : Nat) : Option (Nat × Nat × Nat × Nat) := (pl_at pm_mls oi).bind (fun l => pl_find l ix)
def pm_newc (oi ix : Nat) : Option (Nat × Nat × Nat) := (pl_at pm_cls oi).bind (fun l => pl_find l ix)
def pm_newr (oi ix : Nat) : Option Nat := (pl_at pm_als oi).bind (fun l => pl_find l ix)
def pm_cst (oi ix : Nat) : Option PV := (pl_at pm_css oi).bind (fun l => pl_find l ix)
def pm_cstw (oi ix : Nat) : Option PV := (pl_at pm_cws oi).bind (fun l => pl_find l ix)
def pm_cst2 (oi ix : Nat) : Option PV := (pl_at pm_c2s oi).bind (fun l => pl_find l ix)
def pm_gst (oi ix : Nat) : Option PV := (pl_at pm_gss oi).bind (fun l => pl_find l ix)
/-- is it an int as the machine keeps it -/
def p_cn (x : Int) : Bool := decide ((p_I x).toInt = x)
def p_ld (ls : PLs) (k : Nat) : Option PV := (ls[k]?).bind id
/-- the arguments, the last one topmost -/
def p_pop : Nat → List PV → List PV → Option (List PV × List PV)
  | 0, acc, st => some (acc, st)
  | n + 1, acc, v :: st => p_pop n (v :: acc) st
  | _ + 1, _, [] => none
def p_slots : List PV → PLs
  | [] => []
  | v :: t => match v with
    | .inr (.inl _) => some v :: none :: p_slots t
    | _ => some v :: p_slots t
def p_entry (av : List PV) (maxL : Nat) : Option PLs := bif Nat.ble (p_slots av).length maxL then some (p_slots av ++ List.replicate (maxL - (p_slots av).length) none) else none
def p_get (mi : Nat × Nat) (ix pc n : Nat) (ls : PLs) (st : List PV) (h : PM) : Option PR := match pm_fld mi.1 ix, st with
  | some (ci, k, t, _), .inr (.inr (some (kd, _, a))) :: st => bif (Nat.beq kd (10 + ci) || (Nat.beq kd 6 && Nat.beq ci 0)) then p_nx pc n ls ((bif Nat.beq t 3 then vR (h.2.1 a k) else bif Nat.beq t 2 then vL (h.1 a k) else vI (h.1 a k)) :: st) h else none
  | _, _ => none
def p_put (mi : Nat × Nat) (ix pc n : Nat) (ls : PLs) (st : List PV) (h : PM) : Option PR := match pm_fld mi.1 ix, st with
  | some (ci, k, t, fin), v :: .inr (.inr (some (kd, _, a))) :: st => bif Nat.beq kd (10 + ci) && !(Nat.beq ci 0) && (!fin || (Nat.beq mi.2 0 && Nat.beq ((pl_at pm_oci mi.1).getD 99) ci)) then
    (match v with
      | .inl x => bif Nat.beq t 0 || (Nat.beq t 1 && (decide (x = 0) || decide (x = 1))) then p_nx pc n ls st (m_si h a k x) else none
      | .inr (.inl x) => bif Nat.beq t 2 then p_nx pc n ls st (m_si h a k x) else none
      | .inr (.inr r) => bif Nat.beq t 3 then p_nx pc n ls st (m_sr h a k r) else none) else none
  | _, _ => none
def p_call (stc : Bool) (rk : Nat) (mj : Nat × Nat) (pc : Nat) (ls : PLs) (st : List PV) (h : PM) : Option PR := match pm_inf mj with
  | none => none
  | some (_, _, _, _, _, na, _) => match p_pop (bif stc then na else na + 1) [] st with
    | none => none
    | some (av, st) => bif p_room st then
      (bif stc then some (.inr (.inl (mj, av, (pc, ls, st, h)))) else
        match av with
        | .inr (.inr (some (kd, _, _))) :: _ => bif Nat.beq kd rk then some (.inr (.inl (mj, av, (pc, ls, st, h)))) else none
        | _ => none) else none
def p_invk (k0 : Nat → Bool) (mi : Nat × Nat) (ix pc : Nat) (ls : PLs) (st : List PV) (h : PM) : Option PR := match pm_mth mi.1 ix with
  | some (k, a, b, rk) => bif k0 k then p_call (Nat.beq k 1 || Nat.beq k 2) rk (a, b) pc ls st h else none
  | none => none
def p_special (mi : Nat × Nat) (ix pc : Nat) (ls : PLs) (st : List PV) (h : PM) : Option PR := match pm_mth mi.1 ix with
  | some (k, a, b, rk) => bif Nat.beq k 5 then
      (match st with
        | .inr (.inr (some (kd, _, _))) :: st => bif !(Nat.beq kd 8) && p_room st then p_nx pc 3 ls st h else none
        | _ => none)
    else bif Nat.beq k 3 || Nat.beq k 4 then p_call false rk (a, b) pc ls st h else none
  | none => none
def p_copy (pc : Nat) (ls : PLs) (st : List PV) (h : PM) : Option PR := match st with
  | .inl n :: .inl dp :: .inr (.inr (some (k1, n1, b))) :: .inl sp :: .inr (.inr (some (k0, n0, a))) :: st =>
    bif Nat.beq k0 0 && Nat.beq k1 0 && decide (0 ≤ sp) && decide (0 ≤ dp) && decide (0 ≤ n) && decide (sp + n ≤ n0) && decide (dp + n ≤ n1) && p_room st then
      p_nx pc 3 ls st (m_cpy h a sp.toNat b dp.toNat n.toNat) else none
  | _ => none
def p_mm (f : Int → Int → Int) (pc : Nat) (ls : PLs) (st : List PV) (h : PM) : Option PR := match st with
  | .inl y :: .inl x :: st => bif p_room st then p_nx pc 3 ls (vI (f x y) :: st) h else none
  | _ => none
def p_static (mi : Nat × Nat) (ix pc : Nat) (ls : PLs) (st : List PV) (h : PM) : Option PR := match pm_mth mi.1 ix with
  | some (k, a, b, rk) => bif Nat.beq k 6 then p_copy pc ls st h else bif Nat.beq k 8 then p_mm p_max pc ls st h else bif Nat.beq k 9 then p_mm p_min pc ls st h else bif Nat.beq k 1 || Nat.beq k 2 then p_call true rk (a, b) pc ls st h else none
  | none => none
def p_notab (mi : Nat × Nat) : Bool := match pm_inf mi with
  | some (_, _, _, _, _, _, none) => true
  | _ => false
/-- 'throw new E()' is one step: new, dup, invokespecial, athrow -/
def p_new (mi : Nat × Nat) (ix pc : Nat) (ls : PLs) (st : List PV) (h : PM) : Option PR := match pm_newc mi.1 ix with
  | some (0, ci, N) => p_nx pc 3 ls (vR (some (10 + ci, 0, h.2.2.2.1)) :: st) (m_new h (10 + ci) 0 N)
  | some (1, e, _) => match pm_code mi (pc + 3), pm_code mi (pc + 4), pm_code mi (pc + 7) with
    | some (.dup, 1), some (.invokespecial ic, 3), some (.athrow, 1) => match pm_mth mi.1 ic with
      | some (k, e', _, _) => bif Nat.beq k 7 && Nat.beq e e' && p_room st && p_notab mi then some (.inr (.inr (.inr e, m_exc h))) else none
      | none => none
    | _, _, _ => none
  | _ => none
def p_newa (kd pc n : Nat) (ls : PLs) (st : List PV) (h : PM) : Option PR := match st with
  | .inl x :: st => bif decide (0 ≤ x) && decide (x ≤ 100000) then p_nx pc n ls (vR (some (kd, x.toNat, h.2.2.2.1)) :: st) (m_new h kd x.toNat x.toNat) else none
  | _ => none
/-- a load out of an array of one of two kinds (the second one of those that are only read) -/
def p_ald (k0 k1 t pc : Nat) (ls : PLs) (st : List PV) (h : PM) : Option PR := match st with
  | .inl i :: .inr (.inr (some (kd, n, a))) :: st => bif (Nat.beq kd k0 || Nat.beq kd k1) && p_in i n then p_nx pc 1 ls ((bif Nat.beq t 3 then vR (h.2.1 a i.toNat) else bif Nat.beq t 2 then vL (h.1 a i.toNat) else vI (h.1 a i.toNat)) :: st) h else none
  | _ => none
def p_iast (pc : Nat) (ls : PLs) (st : List PV) (h : PM) : Option PR := match st with
  | .inl x :: .inl i :: .inr (.inr (some (kd, n, a))) :: st => bif Nat.beq kd 0 && p_in i n then p_nx pc 1 ls st (m_si h a i.toNat x) else none
  | _ => none
def p_bast (pc : Nat) (ls : PLs) (st : List PV) (h : PM) : Option PR := match st with
  | .inl x :: .inl i :: .inr (.inr (some (kd, n, a))) :: st => bif Nat.beq kd 1 && p_in i n then p_nx pc 1 ls st (m_si h a i.toNat (p_i2b x)) else none
  | _ => none
def p_last (pc : Nat) (ls : PLs) (st : List PV) (h : PM) : Option PR := match st with
  | .inr (.inl x) :: .inl i :: .inr (.inr (some (kd, n, a))) :: st => bif Nat.beq kd 2 && p_in i n then p_nx pc 1 ls st (m_si h a i.toNat x) else none
  | _ => none
def p_aast (pc : Nat) (ls : PLs) (st : List PV) (h : PM) : Option PR := match st with
  | .inr (.inr (some (k2, n2, b))) :: .inl i :: .inr (.inr (some (kd, n, a))) :: st => bif ((Nat.beq kd 3 && Nat.beq k2 14) || (Nat.beq kd 4 && Nat.beq k2 16)) && p_in i n then p_nx pc 1 ls st (m_sr h a i.toNat (some (k2, n2, b))) else none
  | _ => none
def p_alen (pc : Nat) (ls : PLs) (st : List PV) (h : PM) : Option PR := match st with
  | .inr (.inr (some (kd, n, _))) :: st => bif (Nat.ble kd 5 || Nat.beq kd 7) && decide (n ≤ 100000) then p_nx pc 1 ls (vI n :: st) h else none
  | _ => none
def p_i2 (f : Int → Int → Int) (pc : Nat) (ls : PLs) (st : List PV) (h : PM) : Option PR := match st with
  | .inl y :: .inl x :: st => p_nx pc 1 ls (vI (f x y) :: st) h
  | _ => none
def p_i2d (f : Int → Int → Int) (pc : Nat) (ls : PLs) (st : List PV) (h : PM) : Option PR := match st with
  | .inl y :: .inl x :: st => bif decide (y = 0) then none else p_nx pc 1 ls (vI (f x y) :: st) h
  | _ => none
def p_l2 (f : Int → Int → Int) (pc : Nat) (ls : PLs) (st : List PV) (h : PM) : Option PR := match st with
  | .inr (.inl y) :: .inr (.inl x) :: st => p_nx pc 1 ls (vL (f x y) :: st) h
  | _ => none
def p_i1 (f : Int → Int) (pc : Nat) (ls : PLs) (st : List PV) (h : PM) : Option PR := match st with
  | .inl x :: st => p_nx pc 1 ls (vI (f x) :: st) h
  | _ => none
def p_psi (v : Int) (c : Bool) (pc n : Nat) (ls : PLs) (st : List PV) (h : PM) : Option PR := bif c && p_cn v then p_nx pc n ls (vI v :: st) h else none
def p_lda (t k pc n : Nat) (ls : PLs) (st : List PV) (h : PM) : Option PR := match p_ld ls k with
  | some v => bif Nat.beq (p_tg v) t then p_nx pc n ls (v :: st) h else none
  | none => none
def p_sta (t k pc n : Nat) (ls : PLs) (st : List PV) (h : PM) : Option PR := match st with
  | v :: st => match p_st ls k v with
    | some ls' => bif Nat.blt k ls.length && Nat.beq (p_tg v) t then p_nx pc n ls' st h else none
    | none => none
  | [] => none
/-- a long is kept: the place behind it is no local of its own -/
def p_stl (k pc n : Nat) (ls : PLs) (st : List PV) (h : PM) : Option PR := match st with
  | .inr (.inl x) :: st => match p_st ls k (vL x) with
    | some ls' => bif Nat.blt (k + 1) ls.length then p_nx pc n (ls'.set (k + 1) none) st h else none
    | none => none
  | _ => none
def p_sw (pc : Nat) (dflt lo hi : Int) (offs : Array Int) (ls : PLs) (st : List PV) (h : PM) : Option PR := match st with
  | .inl x :: st => bif decide (x < lo) || decide (hi < x) then (bif decide (0 ≤ (pc : Int) + dflt) then p_nx (p_tgt pc dflt) 0 ls st h else none) else
    match pl_at offs.toList (x - lo).toNat with
    | some off => bif decide (0 ≤ (pc : Int) + off) then p_nx (p_tgt pc off) 0 ls st h else none
    | none => none
  | _ => none
/-- what the method gives back -/
def p_rt (mi : Nat × Nat) : Option FieldType := match pm_inf mi with
  | some inf => inf.2.2.2.1
  | none => none
def p_reti (ty : Option FieldType) (x : Int) : Bool := match ty with
  | some .int => true
  | some .boolean => decide (x = 0) || decide (x = 1)
  | some .byte => decide (p_i2b x = x)
  | some .char => decide (p_i2c x = x)
  | _ => false
def p_retr (ty : Option FieldType) : Bool := match ty with
  | some (.object _) => true
  | some (.array _) => true
  | _ => false
def p_retl (ty : Option FieldType) : Bool := match ty with
  | some .long => true
  | _ => false
def pm_ex (mi : Nat × Nat) (i : Instr) (n pc : Nat) (ls : PLs) (st : List PV) (h : PM) : Option PR := match i with
  | .iconst v => p_psi v true pc 1 ls st h
  | .bipush v => p_psi v (decide ((Int8.ofInt v).toInt32 = p_I v)) pc 2 ls st h
  | .sipush v => p_psi v (decide ((Int16.ofInt v).toInt32 = p_I v)) pc 3 ls st h
  | .iload_n k => p_lda 0 k.val pc 1 ls st h
  | .iload k => p_lda 0 k pc 2 ls st h
  | .lload_n k => p_lda 1 k.val pc 1 ls st h
  | .lload k => p_lda 1 k pc 2 ls st h
  | .aload_n k => p_lda 2 k.val pc 1 ls st h
  | .aload k => p_lda 2 k pc 2 ls st h
  | .istore_n k => p_sta 0 k.val pc 1 ls st h
  | .istore k => p_sta 0 k pc 2 ls st h
  | .astore_n k => p_sta 2 k.val pc 1 ls st h
  | .astore k => p_sta 2 k pc 2 ls st h
  | .lstore_n k => p_stl k.val pc 1 ls st h
  | .lstore k => p_stl k pc 2 ls st h
  | .iinc k v => match p_ld ls k with
    | some (.inl x) => match p_st ls k (vI (p_add x v)) with
      | some ls' => p_nx pc 3 ls' st h
      | none => none
    | _ => none
  | .iadd => p_i2 p_add pc ls st h
  | .isub => p_i2 p_sub pc ls st h
  | .imul => p_i2 p_mul pc ls st h
  | .iand => p_i2 p_and pc ls st h
  | .ior => p_i2 p_or pc ls st h
  | .ixor => p_i2 p_xor pc ls st h
  | .ishl => p_i2 p_shl pc ls st h
  | .ishr => p_i2 p_shr pc ls st h
  | .iushr => p_i2 p_ushr pc ls st h
  | .idiv => p_i2d p_div pc ls st h
  | .irem => p_i2d p_rem pc ls st h
  | .i2b => p_i1 p_i2b pc ls st h
  | .i2c => p_i1 p_i2c pc ls st h
  | .i2l => match st with
    | .inl x :: st => p_nx pc 1 ls (vL (p_i2l x) :: st) h
    | _ => none
  | .l2i => match st with
    | .inr (.inl x) :: st => p_nx pc 1 ls (vI (p_l2i x) :: st) h
    | _ => none
  | .lsub => p_l2 p_lsub pc ls st h
  | .lmul => p_l2 p_lmul pc ls st h
  | .lor => p_l2 p_lor pc ls st h
  | .lshl => match st with
    | .inl y :: .inr (.inl x) :: st => p_nx pc 1 ls (vL (p_lshl x y) :: st) h
    | _ => none
  | .lcmp => match st with
    | .inr (.inl y) :: .inr (.inl x) :: st => p_nx pc 1 ls (vI (p_lcmp x y) :: st) h
    | _ => none
  | .lconst v => p_nx pc 1 ls (vL (Int64.ofNat v.val).toInt :: st) h
  | .dup => match st with
    | v :: st => bif Nat.beq (p_cat v) 1 then p_nx pc 1 ls (v :: v :: st) h else none
    | _ => none
  | .pop => match st with
    | v :: st => bif Nat.beq (p_cat v) 1 then p_nx pc 1 ls st h else none
    | _ => none
  | .dup2 => match st with
    | v :: w :: st => bif Nat.beq (p_cat v) 1 && Nat.beq (p_cat w) 1 then p_nx pc 1 ls (v :: w :: v :: w :: st) h else none
    | _ => none
  | .ifCond c off => match st with
    | .inl x :: st => p_if (p_cnd c x 0) pc off ls st h
    | _ => none
  | .if_icmp c off => match st with
    | .inl y :: .inl x :: st => p_if (p_cnd c x y) pc off ls st h
    | _ => none
  | .ifnonnull off => match st with
    | .inr (.inr (some (kd, n, a))) :: st => bif Nat.beq kd 8 then none else p_if true pc off ls st h
    | .inr (.inr none) :: st => p_if false pc off ls st h
    | _ => none
  | .goto off => bif decide (0 ≤ (pc : Int) + off) then p_nx (p_tgt pc off) 0 ls st h else none
  | .tableswitch dflt lo hi offs => p_sw pc dflt lo hi offs ls st h
  | .ldc ix => match pm_cst mi.1 ix with
    | some v => p_nx pc 2 ls (v :: st) h
    | none => none
  | .ldc_w ix => match pm_cstw mi.1 ix with
    | some v => p_nx pc 3 ls (v :: st) h
    | none => none
  | .ldc2_w ix => match pm_cst2 mi.1 ix with
    | some v => p_nx pc 3 ls (v :: st) h
    | none => none
  | .getstatic ix => match pm_gst mi.1 ix with
    | some v => p_nx pc 3 ls (v :: st) h
    | none => none
  | .getfield ix => p_get mi ix pc 3 ls st h
  | .putfield ix => p_put mi ix pc 3 ls st h
  | .iaload => p_ald 0 5 0 pc ls st h
  | .baload => p_ald 1 7 0 pc ls st h
  | .laload => p_ald 2 2 2 pc ls st h
  | .aaload => p_ald 3 4 3 pc ls st h
  | .iastore => p_iast pc ls st h
  | .bastore => p_bast pc ls st h
  | .lastore => p_last pc ls st h
  | .aastore => p_aast pc ls st h
  | .arraylength => p_alen pc ls st h
  | .newarray ty => match ty with
    | .int => p_newa 0 pc 2 ls st h
    | .byte => p_newa 1 pc 2 ls st h
    | .long => p_newa 2 pc 2 ls st h
    | _ => none
  | .anewarray ix => match pm_newr mi.1 ix with
    | some kd => p_newa kd pc 3 ls st h
    | none => none
  | .new ix => p_new mi ix pc ls st h
  | .invokevirtual ix => p_invk (fun k => Nat.beq k 0) mi ix pc ls st h
  | .invokespecial ix => p_special mi ix pc ls st h
  | .invokestatic ix => p_static mi ix pc ls st h
  | .ireturn => match st with
    | [.inl x] => bif p_reti (p_rt mi) x then some (.inr (.inr (.inl (some (vI x)), h))) else none
    | _ => none
  | .lreturn => match st with
    | [.inr (.inl x)] => bif p_retl (p_rt mi) then some (.inr (.inr (.inl (some (vL x)), h))) else none
    | _ => none
  | .areturn => match st with
    | [.inr (.inr r)] => bif p_retr (p_rt mi) then some (.inr (.inr (.inl (some (vR r)), h))) else none
    | _ => none
  | .return_ => match st with
    | [] => bif (p_rt mi).isNone then some (.inr (.inr (.inl none, h))) else none
    | _ => none
  | _ => none
/-- the lengths of the instructions that are used -/
def p_lenok (i : Instr) (n : Nat) : Bool := match i with
  | .iload_n _ => Nat.beq n 1
  | .lload_n _ => Nat.beq n 1
  | .aload_n _ => Nat.beq n 1
  | .istore_n _ => Nat.beq n 1
  | .astore_n _ => Nat.beq n 1
  | .lstore_n _ => Nat.beq n 1
  | .iadd => Nat.beq n 1
  | .isub => Nat.beq n 1
  | .imul => Nat.beq n 1
  | .iand => Nat.beq n 1
  | .ior => Nat.beq n 1
  | .ixor => Nat.beq n 1
  | .ishl => Nat.beq n 1
  | .ishr => Nat.beq n 1
  | .iushr => Nat.beq n 1
  | .idiv => Nat.beq n 1
  | .irem => Nat.beq n 1
  | .i2b => Nat.beq n 1
  | .i2c => Nat.beq n 1
  | .i2l => Nat.beq n 1
  | .l2i => Nat.beq n 1
  | .lsub => Nat.beq n 1
  | .lmul => Nat.beq n 1
  | .lor => Nat.beq n 1
  | .lshl => Nat.beq n 1
  | .lcmp => Nat.beq n 1
  | .dup => Nat.beq n 1
  | .pop => Nat.beq n 1
  | .dup2 => Nat.beq n 1
  | .iaload => Nat.beq n 1
  | .baload => Nat.beq n 1
  | .laload => Nat.beq n 1
  | .aaload => Nat.beq n 1
  | .iastore => Nat.beq n 1
  | .bastore => Nat.beq n 1
  | .lastore => Nat.beq n 1
  | .aastore => Nat.beq n 1
  | .arraylength => Nat.beq n 1
  | .ireturn => Nat.beq n 1
  | .lreturn => Nat.beq n 1
  | .areturn => Nat.beq n 1
  | .return_ => Nat.beq n 1
  | .iconst _ => Nat.beq n 1
  | .lconst _ => Nat.beq n 1
  | .athrow => Nat.beq n 1
  | .bipush _ => Nat.beq n 2
  | .iload _ => Nat.beq n 2
  | .lload _ => Nat.beq n 2
  | .aload _ => Nat.beq n 2
  | .istore _ => Nat.beq n 2
  | .astore _ => Nat.beq n 2
  | .lstore _ => Nat.beq n 2
  | .ldc _ => Nat.beq n 2
  | .newarray _ => Nat.beq n 2
  | .sipush _ => Nat.beq n 3
  | .iinc _ _ => Nat.beq n 3
  | .ifCond _ _ => Nat.beq n 3
  | .if_icmp _ _ => Nat.beq n 3
  | .ifnonnull _ => Nat.beq n 3
  | .goto _ => Nat.beq n 3
  | .ldc_w _ => Nat.beq n 3
  | .ldc2_w _ => Nat.beq n 3
  | .getstatic _ => Nat.beq n 3
  | .getfield _ => Nat.beq n 3
  | .putfield _ => Nat.beq n 3
  | .anewarray _ => Nat.beq n 3
  | .new _ => Nat.beq n 3
  | .invokevirtual _ => Nat.beq n 3
  | .invokespecial _ => Nat.beq n 3
  | .invokestatic _ => Nat.beq n 3
  | .tableswitch _ _ _ _ => true
  | _ => false
def pm_step (mi : Nat × Nat) (cf : PCf) : Option PR := match pm_code mi cf.1 with
  | none => none
  | some (i, n) => bif p_lenok i n then pm_ex mi i n cf.1 cf.2.1 cf.2.2.1 cf.2.2.2 else none
/-- where an exception that a callee has thrown is caught: behind the store of it, which makes its local dead -/
def p_hnds (oi pc e : Nat) : List (Nat × Nat × Nat × Nat) → Option Nat
  | [] => none
  | (a, b, t, ct) :: l => bif Nat.ble a pc && Nat.blt pc b && (match (pl_at pm_xcs oi).bind (fun l => pl_find l ct) with
      | some e' => Nat.beq e e'
      | none => false) then some t else p_hnds oi pc e l
def p_hst (t k n : Nat) (ls : PLs) : Option (Option (Nat × PLs)) := match p_st ls k (vR none) with
  | some ls' => bif Nat.blt k ls.length then some (some (t + n, ls'.set k none)) else none
  | none => none
def p_hat (mi : Nat × Nat) (t : Nat) (ls : PLs) : Option (Option (Nat × PLs)) := match pm_code mi t with
  | some (.astore k, 2) => p_hst t k 2 ls
  | some (.astore_n k, 1) => p_hst t k.val 1 ls
  | _ => none
def p_hnt (mi : Nat × Nat) (pc e : Nat) (ls : PLs) (hh : List (Nat × Nat × Nat × Nat)) : Option (Option (Nat × PLs)) := match p_hnds mi.1 pc e hh with
  | some t => p_hat mi t ls
  | none => none
def p_vir (mi : Nat × Nat) (pc : Nat) : Bool := match pm_code mi pc with
  | some (.invokevirtual _, _) => true
  | _ => false
def p_hnd0 (mi : Nat × Nat) (pc e : Nat) (ls : PLs) : Option (Option (Nat × PLs)) := match pm_inf mi with
  | some (_, _, _, _, _, _, none) => some none
  | some (_, _, _, _, _, _, some hh) => p_hnt mi pc e ls hh
  | none => none
def p_hnd (mi : Nat × Nat) (pc e : Nat) (ls : PLs) : Option (Option (Nat × PLs)) := bif p_vir mi pc then p_hnd0 mi pc e ls else none
def pm_run : Nat → Nat → (Nat × Nat) → PCf → Option (PO × PM)
  | 0, _, _, _ => none
  | n + 1, d, mi, cf => match pm_step mi cf with
    | none => none
    | some (.inl cf') => pm_run n d mi cf'
    | some (.inr (.inr r)) => some r
    | some (.inr (.inl (mj, av, cf'))) => match d with
      | 0 => none
      | d' + 1 => match pm_inf mj with
        | none => none
        | some (_, _, maxL, _) => match p_entry av maxL with
          | none => none
          | some ls0 => match pm_run n d' mj (0, ls0, [], cf'.2.2.2) with
            | none => none
            | some (.inl v, h1) => pm_run n (d' + 1) mi (cf'.1 + 3, cf'.2.1, v.toList ++ cf'.2.2.1, h1)
            | some (.inr e, h1) => match p_hnd mi cf'.1 e cf'.2.1 with
              | some (some (pc', ls')) => pm_run n (d' + 1) mi (pc', ls', [], h1)
              | some none => some (.inr e, h1)
              | none => none
def Ev (d : Nat) (mi : Nat × Nat) (cf : PCf) (r : PO × PM) : Prop := ∃ n, pm_run n d mi cf = some r
end
