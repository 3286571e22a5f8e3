/-! ===== arithmetic in range is plain; rules for it ===== -/
noncomputable section
theorem p_add_eq {x y : Int} (h : -2147483648 ≤ x + y ∧ x + y ≤ 2147483647) : p_add x y = x + y := by
  unfold p_add p_I
  rw [Int32.toInt_add, Int32.toInt_ofInt, Int32.toInt_ofInt]
  have e : ((x.bmod Int32.size + y.bmod Int32.size).bmod 4294967296) = (x + y).bmod 4294967296 := by
    show ((x.bmod 4294967296 + y.bmod 4294967296).bmod 4294967296) = (x + y).bmod 4294967296
    rw [Int.bmod_add_bmod, Int.add_bmod_bmod]
  rw [e]
  exact Int.bmod_eq_of_le (by omega) (by omega)
theorem p_sub_eq {x y : Int} (h : -2147483648 ≤ x - y ∧ x - y ≤ 2147483647) : p_sub x y = x - y := by
  unfold p_sub p_I
  rw [Int32.toInt_sub, Int32.toInt_ofInt, Int32.toInt_ofInt]
  have e : ((x.bmod Int32.size - y.bmod Int32.size).bmod 4294967296) = (x - y).bmod 4294967296 := by
    show ((x.bmod 4294967296 - y.bmod 4294967296).bmod 4294967296) = (x - y).bmod 4294967296
    rw [Int.bmod_sub_bmod, Int.sub_bmod_bmod]
  rw [e]
  exact Int.bmod_eq_of_le (by omega) (by omega)
theorem p_mul_eq {x y : Int} (h : -2147483648 ≤ x * y ∧ x * y ≤ 2147483647) : p_mul x y = x * y := by
  unfold p_mul p_I
  rw [Int32.toInt_mul, Int32.toInt_ofInt, Int32.toInt_ofInt]
  have e : ((x.bmod Int32.size * y.bmod Int32.size).bmod 4294967296) = (x * y).bmod 4294967296 := by
    show ((x.bmod 4294967296 * y.bmod 4294967296).bmod 4294967296) = (x * y).bmod 4294967296
    rw [Int.bmod_mul_bmod, Int.mul_bmod_bmod]
  rw [e]
  exact Int.bmod_eq_of_le (by omega) (by omega)
theorem pI_eq {x : Int} (h : -2147483648 ≤ x ∧ x ≤ 2147483647) : (p_I x).toInt = x := by
  unfold p_I
  rw [Int32.toInt_ofInt]
  have hs : Int32.size = 4294967296 := rfl
  rw [hs]
  exact Int.bmod_eq_of_le (by omega) (by omega)
theorem p_div_eq {x y : Int} (h : (0 ≤ x ∧ x ≤ 2147483647) ∧ 0 < y ∧ y ≤ 2147483647) : p_div x y = x / y := by
  unfold p_div
  rw [Int32.toInt_div, pI_eq (by omega), pI_eq (by omega), Int.tdiv_eq_ediv_of_nonneg h.1.1]
  have h1 : 0 ≤ x / y := Int.ediv_nonneg h.1.1 (by omega)
  have h2 : x / y ≤ x := Int.ediv_le_self y h.1.1
  exact Int.bmod_eq_of_le (by omega) (by omega)
theorem p_rem_eq {x y : Int} (h : (0 ≤ x ∧ x ≤ 2147483647) ∧ 0 < y ∧ y ≤ 2147483647) : p_rem x y = x % y := by
  have h1 : 0 ≤ x / y := Int.ediv_nonneg h.1.1 (by omega)
  have h2 : x / y ≤ x := Int.ediv_le_self y h.1.1
  have h3 : 0 ≤ x % y := Int.emod_nonneg x (by omega)
  have h4 : x % y < y := Int.emod_lt_of_pos x h.2.1
  have h5 : y * (x / y) + x % y = x := Int.mul_ediv_add_emod x y
  have hd : (p_I x / p_I y).toInt = x / y := p_div_eq h
  have h6 : x / y * y = x - x % y := by rw [Int.mul_comm]; omega
  have hm : (p_I x / p_I y * p_I y).toInt = x / y * y := by
    rw [Int32.toInt_mul, hd, pI_eq (by omega)]
    rw [h6]
    exact Int.bmod_eq_of_le (by omega) (by omega)
  unfold p_rem
  rw [Int32.toInt_sub, hm, pI_eq (by omega), h6]
  have h7 : x - (x - x % y) = x % y := by omega
  rw [h7]
  exact Int.bmod_eq_of_le (by omega) (by omega)
theorem p_max_eq {x y : Int} (hx : -2147483648 ≤ x ∧ x ≤ 2147483647) (hy : -2147483648 ≤ y ∧ y ≤ 2147483647) : p_max x y = max x y := by
  unfold p_max
  have e : (p_I x < p_I y) ↔ x < y := by rw [Int32.lt_iff_toInt_lt, pI_eq hx, pI_eq hy]
  by_cases h : x < y
  · rw [if_pos (e.mpr h), pI_eq hy]; omega
  · rw [if_neg (fun c => h (e.mp c)), pI_eq hx]; omega
theorem p_min_eq {x y : Int} (hx : -2147483648 ≤ x ∧ x ≤ 2147483647) (hy : -2147483648 ≤ y ∧ y ≤ 2147483647) : p_min x y = min x y := by
  unfold p_min
  have e : (p_I y < p_I x) ↔ y < x := by rw [Int32.lt_iff_toInt_lt, pI_eq hx, pI_eq hy]
  by_cases h : y < x
  · rw [if_pos (e.mpr h), pI_eq hy]; omega
  · rw [if_neg (fun c => h (e.mp c)), pI_eq hx]; omega
theorem pl_at_get {α : Type} : ∀ {l : List α} {j : Nat} (hj : j < l.length), pl_at l j = some (l[j]'hj)
  | [], _, hj => absurd hj (by simp)
  | _ :: _, 0, _ => rfl
  | _ :: l, j + 1, hj => pl_at_get (l := l) (j := j) (by simpa using hj)
theorem idxN {i : Int} {n : Nat} (h : 0 ≤ i ∧ i < (n : Nat)) : i.toNat < n := by omega
theorem ite_iff {P Q : Prop} [Decidable P] [Decidable Q] (h : P ↔ Q) : (if P then (1 : Int) else 0) = if Q then 1 else 0 := by
  by_cases c : P
  · rw [if_pos c, if_pos (h.mp c)]
  · rw [if_neg c, if_neg (fun q => c (h.mpr q))]
section
variable {d pc : Nat} {mi : Nat × Nat} {r : PO × PM} {ls ls' : PLs} {st : List PV} {h : PM}
theorem s_iaddp {x y : Int} (hc : pm_code mi pc = some (.iadd, 1)) (ho : -2147483648 ≤ x + y ∧ x + y ≤ 2147483647) (k : Ev d mi (pc + 1, ls, vI (x + y) :: st, h) r) : Ev d mi (pc, ls, vI y :: vI x :: st, h) r := s_iadd hc (by rw [p_add_eq ho]; exact k)
theorem s_isubp {x y : Int} (hc : pm_code mi pc = some (.isub, 1)) (ho : -2147483648 ≤ x - y ∧ x - y ≤ 2147483647) (k : Ev d mi (pc + 1, ls, vI (x - y) :: st, h) r) : Ev d mi (pc, ls, vI y :: vI x :: st, h) r := s_isub hc (by rw [p_sub_eq ho]; exact k)
theorem s_imulp {x y : Int} (hc : pm_code mi pc = some (.imul, 1)) (ho : -2147483648 ≤ x * y ∧ x * y ≤ 2147483647) (k : Ev d mi (pc + 1, ls, vI (x * y) :: st, h) r) : Ev d mi (pc, ls, vI y :: vI x :: st, h) r := s_imul hc (by rw [p_mul_eq ho]; exact k)
theorem s_idivp {x y : Int} (hc : pm_code mi pc = some (.idiv, 1)) (hd : (0 ≤ x ∧ x ≤ 2147483647) ∧ 0 < y ∧ y ≤ 2147483647) (k : Ev d mi (pc + 1, ls, vI (x / y) :: st, h) r) : Ev d mi (pc, ls, vI y :: vI x :: st, h) r := s_idiv hc (by omega) (by rw [p_div_eq hd]; exact k)
theorem s_iremp {x y : Int} (hc : pm_code mi pc = some (.irem, 1)) (hd : (0 ≤ x ∧ x ≤ 2147483647) ∧ 0 < y ∧ y ≤ 2147483647) (k : Ev d mi (pc + 1, ls, vI (x % y) :: st, h) r) : Ev d mi (pc, ls, vI y :: vI x :: st, h) r := s_irem hc (by omega) (by rw [p_rem_eq hd]; exact k)
theorem s_iincp {k : Nat} {v x : Int} (ls' : PLs) (hc : pm_code mi pc = some (.iinc k v, 3)) (hx : p_ld ls k = some (vI x)) (ho : -2147483648 ≤ x + v ∧ x + v ≤ 2147483647) (hs : p_st ls k (vI (x + v)) = some ls') (g : Ev d mi (pc + 3, ls', st, h) r) : Ev d mi (pc, ls, st, h) r := s_iinc ls' hc hx (by rw [p_add_eq ho]; exact hs) g
theorem s_iincpn {k : Nat} {n : Nat} {x : Int} (ls' : PLs) (hc : pm_code mi pc = some (.iinc k (-(n : Int)), 3)) (hx : p_ld ls k = some (vI x)) (ho : -2147483648 ≤ x - n ∧ x - n ≤ 2147483647) (hs : p_st ls k (vI (x - n)) = some ls') (g : Ev d mi (pc + 3, ls', st, h) r) : Ev d mi (pc, ls, st, h) r := s_iinc ls' hc hx (by rw [p_add_eq (by omega)]; exact hs) g
theorem s_sw {x dflt lo hi : Int} {offs : Array Int} {n : Nat} (td : Nat) (hc : pm_code mi pc = some (.tableswitch dflt lo hi offs, n)) (hn : p_lenok (.tableswitch dflt lo hi offs) n = true ∧ (decide (0 ≤ (pc : Int) + dflt) && Nat.beq (p_tgt pc dflt) td) = true ∧ hi = lo + offs.toList.length - 1 ∧ offs.toList.all (fun o => decide (0 ≤ (pc : Int) + o)) = true) (kd : ¬(lo ≤ x ∧ x ≤ hi) → Ev d mi (td, ls, st, h) r) (ks : ∀ (j : Nat) (hj : j < offs.toList.length), x = lo + j → Ev d mi (p_tgt pc (offs.toList[j]'hj), ls, st, h) r) : Ev d mi (pc, ls, vI x :: st, h) r := by
  obtain ⟨hl, h0, h1, h2⟩ := hn
  obtain ⟨h3, h4⟩ := Bool.and_eq_true_iff.mp h0
  have h4 := Nat.eq_of_beq_eq_true h4
  subst h4
  by_cases hx : lo ≤ x ∧ x ≤ hi
  · have hj : (x - lo).toNat < offs.toList.length := by omega
    have hg := ks _ hj (by omega)
    refine ev_step (step_of hc hl ?_) hg
    show p_sw pc dflt lo hi offs ls (vI x :: st) h = _
    unfold p_sw
    dsimp only
    have e1 : (decide (x < lo) || decide (hi < x)) = false := by
      rw [decide_eq_false (by omega), decide_eq_false (by omega)]; rfl
    rw [e1]
    have e2 : pl_at offs.toList (x - lo).toNat = some (offs.toList[(x - lo).toNat]'hj) := pl_at_get hj
    dsimp only [cond]
    rw [e2]
    dsimp only
    have e3 : decide (0 ≤ (pc : Int) + offs.toList[(x - lo).toNat]'hj) = true := List.all_eq_true.mp h2 _ (List.getElem_mem hj)
    rw [e3]
    rfl
  · refine ev_step (step_of hc hl ?_) (kd hx)
    show p_sw pc dflt lo hi offs ls (vI x :: st) h = _
    unfold p_sw
    dsimp only
    have e1 : (decide (x < lo) || decide (hi < x)) = true := by
      by_cases h5 : x < lo
      · rw [decide_eq_true h5]; rfl
      · rw [decide_eq_true (show hi < x by omega), Bool.or_true]
    rw [e1]
    dsimp only [cond]
    rw [h3]
    rfl
theorem s_cvT {ix a b rk n0 a0 e : Nat} {inf : PInf} {stk av : List PV} {h1 : PM} (hc : pm_code mi pc = some (.invokevirtual ix, 3)) (hm : pm_mth mi.1 ix = some (0, a, b, rk)) (hi : pm_inf (a, b) = some inf) (hp : p_pop (inf.2.2.2.2.2.1 + 1) [] stk = some (vR (some (rk, n0, a0)) :: av, st)) (hr : p_room st = true) (c : Ca d (a, b) (vR (some (rk, n0, a0)) :: av) h (.inr e) h1) (hh : p_hnd mi pc e ls = some none) : Ev (d + 1) mi (pc, ls, stk, h) (.inr e, h1) := by
  refine ev_pass (mj := (a, b)) (av := vR (some (rk, n0, a0)) :: av) (pc := pc) (ls := ls) (st := st) (h := h) (step_of hc rfl ?_) c hh
  show p_invk (fun k => Nat.beq k 0) mi ix pc ls stk h = _
  unfold p_invk
  rw [hm]
  obtain ⟨i1, i2, i3, i4, i5, na, i7⟩ := inf
  have hp : p_pop (na + 1) [] stk = some (vR (some (rk, n0, a0)) :: av, st) := hp
  show p_call false rk (a, b) pc ls stk h = _
  unfold p_call; rw [hi]; dsimp only [cond_false]; rw [hp]; dsimp only; rw [hr, Nat.beq_refl]; rfl
theorem s_cvC {ix a b rk n0 a0 e pc' : Nat} {ls' : PLs} {inf : PInf} {stk av : List PV} {h1 : PM} (hc : pm_code mi pc = some (.invokevirtual ix, 3)) (hm : pm_mth mi.1 ix = some (0, a, b, rk)) (hi : pm_inf (a, b) = some inf) (hp : p_pop (inf.2.2.2.2.2.1 + 1) [] stk = some (vR (some (rk, n0, a0)) :: av, st)) (hr : p_room st = true) (c : Ca d (a, b) (vR (some (rk, n0, a0)) :: av) h (.inr e) h1) (hh : p_hnd mi pc e ls = some (some (pc', ls'))) (k : Ev (d + 1) mi (pc', ls', [], h1) r) : Ev (d + 1) mi (pc, ls, stk, h) r := by
  refine ev_catch (mj := (a, b)) (av := vR (some (rk, n0, a0)) :: av) (pc := pc) (ls := ls) (st := st) (h := h) (step_of hc rfl ?_) c hh k
  show p_invk (fun k => Nat.beq k 0) mi ix pc ls stk h = _
  unfold p_invk
  rw [hm]
  obtain ⟨i1, i2, i3, i4, i5, na, i7⟩ := inf
  have hp : p_pop (na + 1) [] stk = some (vR (some (rk, n0, a0)) :: av, st) := hp
  show p_call false rk (a, b) pc ls stk h = _
  unfold p_call; rw [hi]; dsimp only [cond_false]; rw [hp]; dsimp only; rw [hr, Nat.beq_refl]; rfl
theorem ev_ret2 {cf : PCf} {x v : Int} {h' h1 : PM} (e : x = v) (eh : h' = h1) (k : Ev d mi cf (.inl (some (vI x)), h')) : Ev d mi cf (.inl (some (vI v)), h1) := by subst e; subst eh; exact k
theorem ev_retL {cf : PCf} {x v : Int} {h' h1 : PM} (e : x = v) (eh : h' = h1) (k : Ev d mi cf (.inl (some (vL x)), h')) : Ev d mi cf (.inl (some (vL v)), h1) := by subst e; subst eh; exact k
theorem ev_retV {cf : PCf} {h' h1 : PM} (eh : h' = h1) (k : Ev d mi cf (.inl none, h')) : Ev d mi cf (.inl none, h1) := by subst eh; exact k
theorem ev_retR {cf : PCf} {x v : Rf} {h' h1 : PM} (e : x = v) (eh : h' = h1) (k : Ev d mi cf (.inl (some (vR x)), h')) : Ev d mi cf (.inl (some (vR v)), h1) := by subst e; subst eh; exact k
theorem ev_eqr {cf : PCf} {r' : PO × PM} (e : r' = r) (k : Ev d mi cf r') : Ev d mi cf r := by subst e; exact k
end
theorem b2t {P : Prop} [Decidable P] (h : (if P then (1 : Int) else 0) ≠ 0) : P := by
  by_cases c : P
  · exact c
  · rw [if_neg c] at h; exact absurd rfl h
theorem b2f {P : Prop} [Decidable P] (h : (if P then (1 : Int) else 0) = 0) : ¬P := by
  intro c
  rw [if_pos c] at h
  cases h
theorem ite01 (P : Prop) [Decidable P] : (if P then (1 : Int) else 0) = 0 ∨ (if P then (1 : Int) else 0) = 1 := by
  by_cases c : P
  · right; rw [if_pos c]
  · left; rw [if_neg c]
def cpyI (I : Nat → Nat → Int) (a sp b dp n : Nat) : Nat → Nat → Int := up1 I b (fun k => if dp ≤ k ∧ k < dp + n then I a (sp + (k - dp)) else I b k)
/-- a loop that counts up: backwards from its end -/
theorem up_loop {P : Int → Prop} {n : Int} (he : P n) (hs : ∀ k, 0 ≤ k → k < n → P (k + 1) → P k) : ∀ k, 0 ≤ k → k ≤ n → P k := by
  have key : ∀ (j : Nat) (k : Int), 0 ≤ k → k + j = n → P k := by
    intro j
    induction j with
    | zero => intro k _ h; have : k = n := by omega
              subst this; exact he
    | succ j ih => intro k h0 h1; exact hs k h0 (by omega) (ih (k + 1) (by omega) (by omega))
  intro k h0 h1
  exact key (n - k).toNat k h0 (by omega)
end
