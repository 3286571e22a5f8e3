/-! ===== THE PURE MACHINE: ints as Int, references as (kind, length, number); one function 'pm_step' a method's step, 'pm_run' with fuel ===== -/
abbrev Rf : Type := Option (Nat × Nat × Nat)
/-- an int, a long, a reference -/
abbrev PV : Type := Int ⊕ (Int ⊕ Rf)
/-- numbers, references, shapes (kind, length), next number, cells and slots made -/
abbrev PM : Type := (Nat → Nat → Int) × (Nat → Nat → Rf) × (Nat → Nat × Nat) × Nat × Nat × Nat
/-- how a method ends: a value, or the number of the class that it throws -/
abbrev PO : Type := Option PV ⊕ Nat
abbrev PLs : Type := List (Option PV)
abbrev PCf : Type := Nat × PLs × List PV × PM
abbrev PR : Type := PCf ⊕ (((Nat × Nat) × List PV × PCf) ⊕ (PO × PM))
abbrev vI (x : Int) : PV := .inl x
abbrev vL (x : Int) : PV := .inr (.inl x)
abbrev vR (r : Rf) : PV := .inr (.inr r)
def p_I (x : Int) : Int32 := Int32.ofInt x
def p_L (x : Int) : Int64 := Int64.ofInt x
def p_add (x y : Int) : Int := (p_I x + p_I y).toInt
def p_sub (x y : Int) : Int := (p_I x - p_I y).toInt
def p_mul (x y : Int) : Int := (p_I x * p_I y).toInt
def p_div (x y : Int) : Int := (p_I x / p_I y).toInt
def p_rem (x y : Int) : Int := (p_I x - p_I x / p_I y * p_I y).toInt
def p_and (x y : Int) : Int := (p_I x &&& p_I y).toInt
def p_or (x y : Int) : Int := (p_I x ||| p_I y).toInt
def p_xor (x y : Int) : Int := (p_I x ^^^ p_I y).toInt
def p_shl (x y : Int) : Int := (p_I x <<< (p_I y &&& 31)).toInt
def p_shr (x y : Int) : Int := (p_I x >>> (p_I y &&& 31)).toInt
def p_ushr (x y : Int) : Int := (((p_I x).toUInt32 >>> ((p_I y).toUInt32 &&& Int32.toUInt32 31)).toInt32).toInt
def p_i2b (x : Int) : Int := ((p_I x).toInt8.toInt32).toInt
def p_i2c (x : Int) : Int := ((p_I x).toUInt32 % 65536).toInt32.toInt
def p_i2l (x : Int) : Int := ((p_I x).toInt64).toInt
def p_l2i (x : Int) : Int := ((p_L x).toInt32).toInt
def p_lsub (x y : Int) : Int := (p_L x - p_L y).toInt
def p_lmul (x y : Int) : Int := (p_L x * p_L y).toInt
def p_lor (x y : Int) : Int := (p_L x ||| p_L y).toInt
def p_lshl (x y : Int) : Int := (p_L x <<< ((p_I y).toInt64 &&& 63)).toInt
def p_max (x y : Int) : Int := (if p_I x < p_I y then p_I y else p_I x).toInt
def p_min (x y : Int) : Int := (if p_I y < p_I x then p_I y else p_I x).toInt
def p_lcmp (x y : Int) : Int := (lg_cmp (p_L x) (p_L y)).toInt
def m_i (h : PM) (a k : Nat) : Int := h.1 a k
def m_r (h : PM) (a k : Nat) : Rf := h.2.1 a k
def up2 {α : Type} (f : Nat → Nat → α) (a k : Nat) (v : α) : Nat → Nat → α := fun b j => if b = a ∧ j = k then v else f b j
def up1 {α : Type} (f : Nat → α) (a : Nat) (v : α) : Nat → α := fun b => if b = a then v else f b
def m_si (h : PM) (a k : Nat) (x : Int) : PM := (up2 h.1 a k x, h.2)
def m_sr (h : PM) (a k : Nat) (r : Rf) : PM := (h.1, up2 h.2.1 a k r, h.2.2)
/-- a new object or array of n slots -/
def m_new (h : PM) (kd n sl : Nat) : PM := (up1 h.1 h.2.2.2.1 (fun _ => 0), up1 h.2.1 h.2.2.2.1 (fun _ => none), up1 h.2.2.1 h.2.2.2.1 (kd, n), h.2.2.2.1 + 1, h.2.2.2.2.1 + 1, h.2.2.2.2.2 + sl)
/-- an exception's object is made: it is counted, nothing else -/
def m_exc (h : PM) : PM := (h.1, h.2.1, h.2.2.1, h.2.2.2.1, h.2.2.2.2.1 + 1, h.2.2.2.2.2 + 6)
/-- arraycopy -/
def m_cpy (h : PM) (a sp b dp n : Nat) : PM := (up1 h.1 b (fun k => if dp ≤ k ∧ k < dp + n then h.1 a (sp + (k - dp)) else h.1 b k), h.2)
def p_tgt (pc : Nat) (off : Int) : Nat := ((pc : Int) + off).toNat
def p_cat (v : PV) : Nat := match v with
  | .inr (.inl _) => 2
  | _ => 1
def p_room (st : List PV) : Bool := Nat.ble ((st.map p_cat).foldr (· + ·) 0) 8
def p_isL (o : Option (Option PV)) : Bool := match o with
  | some (some (.inr (.inl _))) => true
  | _ => false
/-- a local is written: none of those that a long before it holds -/
def p_st (ls : PLs) (k : Nat) (v : PV) : Option PLs := match k with
  | 0 => some (ls.set 0 (some v))
  | j + 1 => bif p_isL ls[j]? then none else some (ls.set (j + 1) (some v))
/-- what a value is: 0 an int, 1 a long, 2 a reference -/
def p_tg (v : PV) : Nat := match v with
  | .inl _ => 0
  | .inr (.inl _) => 1
  | .inr (.inr _) => 2
def p_nx (pc n : Nat) (ls : PLs) (st : List PV) (h : PM) : Option PR := some (.inl (pc + n, ls, st, h))
def p_if (c : Bool) (pc : Nat) (off : Int) (ls : PLs) (st : List PV) (h : PM) : Option PR := bif decide (0 ≤ (pc : Int) + off) then (bif c then p_nx (p_tgt pc off) 0 ls st h else p_nx pc 3 ls st h) else none
def p_cnd (c : ClassFile.Cond) (x y : Int) : Bool := match c with
  | .eq => decide (x = y)
  | .ne => !decide (x = y)
  | .lt => decide (x < y)
  | .ge => decide (y ≤ x)
  | .gt => decide (y < x)
  | .le => decide (x ≤ y)
def p_in (i : Int) (n : Nat) : Bool := decide (0 ≤ i) && decide (i < n)
