/-! ===== what is known of the law's start is known at every method's start ===== -/
noncomputable section
theorem cast_moved {a b : String} {u U : State} (hvm : u.vm.Alike U.vm) (h : va_Nw (.castable a b) u) : va_Nw (.castable a b) U := by
  have h1 : (Cond.castable a b).before #[] (u.setVm U.vm) = true := by
    rw [Cond.castable_setVm hvm]; exact h
  exact va_tabs rfl (rfl : (u.setVm U.vm).vm = U.vm) h1
theorem decl_moved {x : MethodName} {u U : State} (hvm : u.vm.Alike U.vm) (h : va_Nw (.declares x) u) : va_Nw (.declares x) U := by
  have h1 : (Cond.declares x).before #[] (u.setVm U.vm) = true := by
    rw [Cond.declares_setVm hvm]; exact h
  exact va_tabs rfl (rfl : (u.setVm U.vm).vm = U.vm) h1
theorem SX.mv {X : RX} {D : va_G} {cA : Nat → ClassId} {base : Nat} {s0 s U : State} (h : SX X D cA base s0 s) (hvm : s.vm.Alike U.vm) (hR : ∀ own ix tx a, vk_R own ix tx a s → vk_R own ix tx a U) (hN : ∀ own ix y host, va_Nw (.methodLinkNest own ix y host) s → va_Nw (.methodLinkNest own ix y host) U) (hsz : s.heap.size ≤ U.heap.size) (hq : ∀ a : Nat, a < s.heap.size → ¬ AB base a → U.heap[a]? = s.heap[a]?) : SX X D cA base s0 U := by
  obtain ⟨s1, hK, hSt, hRo, hao1, hao2, hz1, hz2, hcst, hgst, t1, t2, t3, t4⟩ := h
  refine ⟨⟨s1.1.trans hvm, Nat.le_trans s1.2.1 hsz, fun q hb => ?_⟩, hK.moved hvm, ?_, ?_, hao1.moved hvm, hao2.moved hvm, (hz1.kept hq).moved hvm, (hz2.kept hq).moved hvm, ?_, ?_, ?_, ?_, ?_, ?_⟩
  · rw [hq q (by have := s1.2.1; omega) (by unfold AB; omega)]
    exact s1.2.2 q hb
  · intro a ha hk ad had
    obtain ⟨x1, x2⟩ := hSt a ha hk ad had
    exact ⟨(x1.kept hq).moved hvm, (x2.kept hq).moved hvm⟩
  · intro a ha
    obtain ⟨x1, x2⟩ := hRo a ha
    exact ⟨fun hk => ((x1 hk).kept hq).moved hvm, fun hk => ((x2 hk).kept hq).moved hvm⟩
  · intro oi own ix v ho hv
    rcases hcst oi own ix v ho hv with x1 | ⟨n, a, tx, x1, x2, x3, x4⟩
    · exact Or.inl x1
    · exact Or.inr ⟨n, a, tx, x1, x2, x3, hR _ _ _ _ x4⟩
  · intro oi own ix v ho hv
    obtain ⟨C, n, d, x1, x2, x3⟩ := hgst oi own ix v ho hv
    exact ⟨C, n, d, fun ad had => ((x1 ad had).kept hq).moved hvm, x2, x3⟩
  · intro a ha hk
    exact ((t1 a ha hk).kept hq).moved hvm
  · intro oi own ix k9 a b rk inf ho hm hk9 hi
    obtain ⟨host, x1⟩ := t2 oi own ix k9 a b rk inf ho hm hk9 hi
    exact ⟨host, hN _ _ _ _ x1⟩
  · intro k E hk
    exact ⟨cast_moved hvm (t3 k E hk).1, fun Y hY => decl_moved hvm ((t3 k E hk).2 Y hY)⟩
  · intro k k' E E' hne h1 h2
    exact (t4 k k' E E' hne h1 h2).moved hvm
theorem SX.warm {X : RX} {D : va_G} {cA : Nat → ClassId} {base : Nat} {s0 s U : State} {locs : List Loc} (h : SX X D cA base s0 s) (hW : s.WarmedH U.vm) (hS : va_S (AB base) s.heap U.heap locs) : SX X D cA base s0 U :=
  h.mv hW.alike (fun _ _ _ _ q => q.warm hW) (fun _ _ _ _ q => q.warmM hW) hS.1 hS.2.1
theorem SX.same {X : RX} {D : va_G} {cA : Nat → ClassId} {base : Nat} {s0 s U : State} (h : SX X D cA base s0 s) (hv : U.vm = s.vm) (hh : U.heap = s.heap) : SX X D cA base s0 U :=
  h.mv (by rw [hv]; exact Vm.Alike.refl _) (fun _ _ _ _ q => q.same hv) (fun _ _ _ _ q => va_Nw.same rfl hv.symm q) (by rw [hh]; exact Nat.le_refl _) (fun a _ _ => by rw [hh])
/-! ===== what a run keeps: cells stay, counts grow ===== -/
def m_ext (h h' : PM) : Prop := m_sz h ≤ m_sz h' ∧ (∀ a, a < m_sz h → h'.2.2.1 a = h.2.2.1 a) ∧ m_ce h ≤ m_ce h' ∧ m_sl h ≤ m_sl h'
theorem m_ext.rf {h : PM} : m_ext h h := ⟨Nat.le_refl _, fun _ _ => rfl, Nat.le_refl _, Nat.le_refl _⟩
theorem m_ext.tr {a b c : PM} (h1 : m_ext a b) (h2 : m_ext b c) : m_ext a c :=
  ⟨Nat.le_trans h1.1 h2.1, fun i hi => (h2.2.1 i (Nat.lt_of_lt_of_le hi h1.1)).trans (h1.2.1 i hi), Nat.le_trans h1.2.2.1 h2.2.2.1, Nat.le_trans h1.2.2.2 h2.2.2.2⟩
theorem okV.ext {h h' : PM} (e : m_ext h h') {v : PV} (hv : okV h v) : okV h' v := by
  rcases v with y | y | r
  · exact hv
  · exact hv
  · intro kd n a hq
    obtain ⟨q1, q2, q3, q4⟩ := hv kd n a hq
    have := e.2.1 a q1
    refine ⟨Nat.lt_of_lt_of_le q1 e.1, ?_, ?_, q4⟩
    · unfold m_kd; rw [this]; exact q2
    · unfold m_ln; rw [this]; exact q3
theorem m_new_ext {h : PM} {kd n sl : Nat} : m_ext h (m_new h kd n sl) := by
  refine ⟨by show m_sz h ≤ m_sz h + 1; omega, fun a ha => ?_, by show m_ce h ≤ m_ce h + 1; omega, by show m_sl h ≤ m_sl h + sl; omega⟩
  show up1 h.2.2.1 (m_sz h) (kd, n) a = _
  exact up1_ne (by omega)
theorem m_exc_ext {h : PM} : m_ext h (m_exc h) := ⟨Nat.le_refl _, fun _ _ => rfl, by show m_ce h ≤ m_ce h + 1; omega, by show m_sl h ≤ m_sl h + 6; omega⟩
/-- the heap of what a step leads to -/
def pr_h (r : PR) : PM := match r with
  | .inl cf => cf.2.2.2
  | .inr (.inl q) => q.2.2.2.2.2
  | .inr (.inr q) => q.2
theorem nx_ext {pc n : Nat} {ls : PLs} {st : List PV} {h h' : PM} {r : PR} (e : m_ext h h') (hs : p_nx pc n ls st h' = some r) : m_ext h (pr_h r) := by
  unfold p_nx at hs
  cases Option.some.inj hs
  exact e
theorem bif_ext {b : Bool} {x : Option PR} {h : PM} (hx : ∀ r, x = some r → m_ext h (pr_h r)) {r : PR} (hs : (bif b then x else none) = some r) : m_ext h (pr_h r) := by
  cases b with
  | false => cases hs
  | true => exact hx r hs
theorem call_ext {stc : Bool} {rk : Nat} {mj : Nat × Nat} {pc : Nat} {ls : PLs} {st : List PV} {h : PM} {r : PR} (hs : p_call stc rk mj pc ls st h = some r) : m_ext h (pr_h r) := by
  unfold p_call at hs
  split at hs
  · cases hs
  · split at hs
    · cases hs
    · refine bif_ext (fun r hr => ?_) hs
      cases stc with
      | true => cases Option.some.inj hr; exact m_ext.rf
      | false =>
        simp only [cond_false] at hr
        split at hr
        · refine bif_ext (fun r hr => ?_) hr
          cases Option.some.inj hr; exact m_ext.rf
        · cases hr
theorem si_ext {h : PM} {a k : Nat} {x : Int} : m_ext h (m_si h a k x) := ⟨Nat.le_refl _, fun _ _ => rfl, Nat.le_refl _, Nat.le_refl _⟩
theorem sr_ext {h : PM} {a k : Nat} {x : Rf} : m_ext h (m_sr h a k x) := ⟨Nat.le_refl _, fun _ _ => rfl, Nat.le_refl _, Nat.le_refl _⟩
theorem cpy_ext {h : PM} {a sp b dp n : Nat} : m_ext h (m_cpy h a sp b dp n) := ⟨Nat.le_refl _, fun _ _ => rfl, Nat.le_refl _, Nat.le_refl _⟩
theorem if_ext {b : Bool} {pc : Nat} {off : Int} {ls : PLs} {st : List PV} {h : PM} {r : PR} (hs : p_if b pc off ls st h = some r) : m_ext h (pr_h r) := by
  unfold p_if at hs
  refine bif_ext (fun r hr => ?_) hs
  cases b with
  | true => exact nx_ext m_ext.rf hr
  | false => exact nx_ext m_ext.rf hr
theorem p_i2_ext {f : Int → Int → Int} {pc : Nat} {ls : PLs} {st : List PV} {h : PM} {r : PR} (hs : p_i2 f pc ls st h = some r) : m_ext h (pr_h r) := by
  unfold p_i2 at hs
  try simp only [Bool.cond_eq_ite] at hs
  repeat' split at hs
  all_goals first
    | (cases hs; done)
    | exact nx_ext m_ext.rf hs
    | exact nx_ext si_ext hs
    | exact nx_ext sr_ext hs
    | exact nx_ext cpy_ext hs
    | exact nx_ext m_new_ext hs
    | exact call_ext hs
    | exact p_copy_ext hs
    | (cases Option.some.inj hs; exact m_exc_ext)
theorem p_i2d_ext {f : Int → Int → Int} {pc : Nat} {ls : PLs} {st : List PV} {h : PM} {r : PR} (hs : p_i2d f pc ls st h = some r) : m_ext h (pr_h r) := by
  unfold p_i2d at hs
  try simp only [Bool.cond_eq_ite] at hs
  repeat' split at hs
  all_goals first
    | (cases hs; done)
    | exact nx_ext m_ext.rf hs
    | exact nx_ext si_ext hs
    | exact nx_ext sr_ext hs
    | exact nx_ext cpy_ext hs
    | exact nx_ext m_new_ext hs
    | exact call_ext hs
    | exact p_copy_ext hs
    | (cases Option.some.inj hs; exact m_exc_ext)
theorem p_l2_ext {f : Int → Int → Int} {pc : Nat} {ls : PLs} {st : List PV} {h : PM} {r : PR} (hs : p_l2 f pc ls st h = some r) : m_ext h (pr_h r) := by
  unfold p_l2 at hs
  try simp only [Bool.cond_eq_ite] at hs
  repeat' split at hs
  all_goals first
    | (cases hs; done)
    | exact nx_ext m_ext.rf hs
    | exact nx_ext si_ext hs
    | exact nx_ext sr_ext hs
    | exact nx_ext cpy_ext hs
    | exact nx_ext m_new_ext hs
    | exact call_ext hs
    | exact p_copy_ext hs
    | (cases Option.some.inj hs; exact m_exc_ext)
theorem p_i1_ext {f : Int → Int} {pc : Nat} {ls : PLs} {st : List PV} {h : PM} {r : PR} (hs : p_i1 f pc ls st h = some r) : m_ext h (pr_h r) := by
  unfold p_i1 at hs
  try simp only [Bool.cond_eq_ite] at hs
  repeat' split at hs
  all_goals first
    | (cases hs; done)
    | exact nx_ext m_ext.rf hs
    | exact nx_ext si_ext hs
    | exact nx_ext sr_ext hs
    | exact nx_ext cpy_ext hs
    | exact nx_ext m_new_ext hs
    | exact call_ext hs
    | exact p_copy_ext hs
    | (cases Option.some.inj hs; exact m_exc_ext)
theorem p_psi_ext {v : Int} {b : Bool} {n : Nat} {pc : Nat} {ls : PLs} {st : List PV} {h : PM} {r : PR} (hs : p_psi v b pc n ls st h = some r) : m_ext h (pr_h r) := by
  unfold p_psi at hs
  try simp only [Bool.cond_eq_ite] at hs
  repeat' split at hs
  all_goals first
    | (cases hs; done)
    | exact nx_ext m_ext.rf hs
    | exact nx_ext si_ext hs
    | exact nx_ext sr_ext hs
    | exact nx_ext cpy_ext hs
    | exact nx_ext m_new_ext hs
    | exact call_ext hs
    | exact p_copy_ext hs
    | (cases Option.some.inj hs; exact m_exc_ext)
theorem p_lda_ext {t k n : Nat} {pc : Nat} {ls : PLs} {st : List PV} {h : PM} {r : PR} (hs : p_lda t k pc n ls st h = some r) : m_ext h (pr_h r) := by
  unfold p_lda at hs
  try simp only [Bool.cond_eq_ite] at hs
  repeat' split at hs
  all_goals first
    | (cases hs; done)
    | exact nx_ext m_ext.rf hs
    | exact nx_ext si_ext hs
    | exact nx_ext sr_ext hs
    | exact nx_ext cpy_ext hs
    | exact nx_ext m_new_ext hs
    | exact call_ext hs
    | exact p_copy_ext hs
    | (cases Option.some.inj hs; exact m_exc_ext)
theorem p_sta_ext {t k n : Nat} {pc : Nat} {ls : PLs} {st : List PV} {h : PM} {r : PR} (hs : p_sta t k pc n ls st h = some r) : m_ext h (pr_h r) := by
  unfold p_sta at hs
  try simp only [Bool.cond_eq_ite] at hs
  repeat' split at hs
  all_goals first
    | (cases hs; done)
    | exact nx_ext m_ext.rf hs
    | exact nx_ext si_ext hs
    | exact nx_ext sr_ext hs
    | exact nx_ext cpy_ext hs
    | exact nx_ext m_new_ext hs
    | exact call_ext hs
    | exact p_copy_ext hs
    | (cases Option.some.inj hs; exact m_exc_ext)
theorem p_stl_ext {k n : Nat} {pc : Nat} {ls : PLs} {st : List PV} {h : PM} {r : PR} (hs : p_stl k pc n ls st h = some r) : m_ext h (pr_h r) := by
  unfold p_stl at hs
  try simp only [Bool.cond_eq_ite] at hs
  repeat' split at hs
  all_goals first
    | (cases hs; done)
    | exact nx_ext m_ext.rf hs
    | exact nx_ext si_ext hs
    | exact nx_ext sr_ext hs
    | exact nx_ext cpy_ext hs
    | exact nx_ext m_new_ext hs
    | exact call_ext hs
    | exact p_copy_ext hs
    | (cases Option.some.inj hs; exact m_exc_ext)
theorem p_sw_ext {dflt lo hi : Int} {offs : Array Int} {pc : Nat} {ls : PLs} {st : List PV} {h : PM} {r : PR} (hs : p_sw pc dflt lo hi offs ls st h = some r) : m_ext h (pr_h r) := by
  unfold p_sw at hs
  try simp only [Bool.cond_eq_ite] at hs
  repeat' split at hs
  all_goals first
    | (cases hs; done)
    | exact nx_ext m_ext.rf hs
    | exact nx_ext si_ext hs
    | exact nx_ext sr_ext hs
    | exact nx_ext cpy_ext hs
    | exact nx_ext m_new_ext hs
    | exact call_ext hs
    | exact p_copy_ext hs
    | (cases Option.some.inj hs; exact m_exc_ext)
theorem p_get_ext {mi : Nat × Nat} {ix n : Nat} {pc : Nat} {ls : PLs} {st : List PV} {h : PM} {r : PR} (hs : p_get mi ix pc n ls st h = some r) : m_ext h (pr_h r) := by
  unfold p_get at hs
  try simp only [Bool.cond_eq_ite] at hs
  repeat' split at hs
  all_goals first
    | (cases hs; done)
    | exact nx_ext m_ext.rf hs
    | exact nx_ext si_ext hs
    | exact nx_ext sr_ext hs
    | exact nx_ext cpy_ext hs
    | exact nx_ext m_new_ext hs
    | exact call_ext hs
    | exact p_copy_ext hs
    | (cases Option.some.inj hs; exact m_exc_ext)
theorem p_put_ext {mi : Nat × Nat} {ix n : Nat} {pc : Nat} {ls : PLs} {st : List PV} {h : PM} {r : PR} (hs : p_put mi ix pc n ls st h = some r) : m_ext h (pr_h r) := by
  unfold p_put at hs
  try simp only [Bool.cond_eq_ite] at hs
  repeat' split at hs
  all_goals first
    | (cases hs; done)
    | exact nx_ext m_ext.rf hs
    | exact nx_ext si_ext hs
    | exact nx_ext sr_ext hs
    | exact nx_ext cpy_ext hs
    | exact nx_ext m_new_ext hs
    | exact call_ext hs
    | exact p_copy_ext hs
    | (cases Option.some.inj hs; exact m_exc_ext)
theorem p_ald_ext {k0 k1 t : Nat} {pc : Nat} {ls : PLs} {st : List PV} {h : PM} {r : PR} (hs : p_ald k0 k1 t pc ls st h = some r) : m_ext h (pr_h r) := by
  unfold p_ald at hs
  try simp only [Bool.cond_eq_ite] at hs
  repeat' split at hs
  all_goals first
    | (cases hs; done)
    | exact nx_ext m_ext.rf hs
    | exact nx_ext si_ext hs
    | exact nx_ext sr_ext hs
    | exact nx_ext cpy_ext hs
    | exact nx_ext m_new_ext hs
    | exact call_ext hs
    | exact p_copy_ext hs
    | (cases Option.some.inj hs; exact m_exc_ext)
theorem p_iast_ext {pc : Nat} {ls : PLs} {st : List PV} {h : PM} {r : PR} (hs : p_iast pc ls st h = some r) : m_ext h (pr_h r) := by
  unfold p_iast at hs
  try simp only [Bool.cond_eq_ite] at hs
  repeat' split at hs
  all_goals first
    | (cases hs; done)
    | exact nx_ext m_ext.rf hs
    | exact nx_ext si_ext hs
    | exact nx_ext sr_ext hs
    | exact nx_ext cpy_ext hs
    | exact nx_ext m_new_ext hs
    | exact call_ext hs
    | exact p_copy_ext hs
    | (cases Option.some.inj hs; exact m_exc_ext)
theorem p_bast_ext {pc : Nat} {ls : PLs} {st : List PV} {h : PM} {r : PR} (hs : p_bast pc ls st h = some r) : m_ext h (pr_h r) := by
  unfold p_bast at hs
  try simp only [Bool.cond_eq_ite] at hs
  repeat' split at hs
  all_goals first
    | (cases hs; done)
    | exact nx_ext m_ext.rf hs
    | exact nx_ext si_ext hs
    | exact nx_ext sr_ext hs
    | exact nx_ext cpy_ext hs
    | exact nx_ext m_new_ext hs
    | exact call_ext hs
    | exact p_copy_ext hs
    | (cases Option.some.inj hs; exact m_exc_ext)
theorem p_last_ext {pc : Nat} {ls : PLs} {st : List PV} {h : PM} {r : PR} (hs : p_last pc ls st h = some r) : m_ext h (pr_h r) := by
  unfold p_last at hs
  try simp only [Bool.cond_eq_ite] at hs
  repeat' split at hs
  all_goals first
    | (cases hs; done)
    | exact nx_ext m_ext.rf hs
    | exact nx_ext si_ext hs
    | exact nx_ext sr_ext hs
    | exact nx_ext cpy_ext hs
    | exact nx_ext m_new_ext hs
    | exact call_ext hs
    | exact p_copy_ext hs
    | (cases Option.some.inj hs; exact m_exc_ext)
theorem p_aast_ext {pc : Nat} {ls : PLs} {st : List PV} {h : PM} {r : PR} (hs : p_aast pc ls st h = some r) : m_ext h (pr_h r) := by
  unfold p_aast at hs
  try simp only [Bool.cond_eq_ite] at hs
  repeat' split at hs
  all_goals first
    | (cases hs; done)
    | exact nx_ext m_ext.rf hs
    | exact nx_ext si_ext hs
    | exact nx_ext sr_ext hs
    | exact nx_ext cpy_ext hs
    | exact nx_ext m_new_ext hs
    | exact call_ext hs
    | exact p_copy_ext hs
    | (cases Option.some.inj hs; exact m_exc_ext)
theorem p_alen_ext {pc : Nat} {ls : PLs} {st : List PV} {h : PM} {r : PR} (hs : p_alen pc ls st h = some r) : m_ext h (pr_h r) := by
  unfold p_alen at hs
  try simp only [Bool.cond_eq_ite] at hs
  repeat' split at hs
  all_goals first
    | (cases hs; done)
    | exact nx_ext m_ext.rf hs
    | exact nx_ext si_ext hs
    | exact nx_ext sr_ext hs
    | exact nx_ext cpy_ext hs
    | exact nx_ext m_new_ext hs
    | exact call_ext hs
    | exact p_copy_ext hs
    | (cases Option.some.inj hs; exact m_exc_ext)
theorem p_newa_ext {kd n : Nat} {pc : Nat} {ls : PLs} {st : List PV} {h : PM} {r : PR} (hs : p_newa kd pc n ls st h = some r) : m_ext h (pr_h r) := by
  unfold p_newa at hs
  try simp only [Bool.cond_eq_ite] at hs
  repeat' split at hs
  all_goals first
    | (cases hs; done)
    | exact nx_ext m_ext.rf hs
    | exact nx_ext si_ext hs
    | exact nx_ext sr_ext hs
    | exact nx_ext cpy_ext hs
    | exact nx_ext m_new_ext hs
    | exact call_ext hs
    | exact p_copy_ext hs
    | (cases Option.some.inj hs; exact m_exc_ext)
theorem p_copy_ext {pc : Nat} {ls : PLs} {st : List PV} {h : PM} {r : PR} (hs : p_copy pc ls st h = some r) : m_ext h (pr_h r) := by
  unfold p_copy at hs
  try simp only [Bool.cond_eq_ite] at hs
  repeat' split at hs
  all_goals first
    | (cases hs; done)
    | exact nx_ext m_ext.rf hs
    | exact nx_ext si_ext hs
    | exact nx_ext sr_ext hs
    | exact nx_ext cpy_ext hs
    | exact nx_ext m_new_ext hs
    | exact call_ext hs
    | exact p_copy_ext hs
    | (cases Option.some.inj hs; exact m_exc_ext)
theorem p_new_ext {mi : Nat × Nat} {ix : Nat} {pc : Nat} {ls : PLs} {st : List PV} {h : PM} {r : PR} (hs : p_new mi ix pc ls st h = some r) : m_ext h (pr_h r) := by
  unfold p_new at hs
  try simp only [Bool.cond_eq_ite] at hs
  repeat' split at hs
  all_goals first
    | (cases hs; done)
    | exact nx_ext m_ext.rf hs
    | exact nx_ext si_ext hs
    | exact nx_ext sr_ext hs
    | exact nx_ext cpy_ext hs
    | exact nx_ext m_new_ext hs
    | exact call_ext hs
    | exact p_copy_ext hs
    | (cases Option.some.inj hs; exact m_exc_ext)
theorem p_invk_ext {k0 : Nat → Bool} {mi : Nat × Nat} {ix : Nat} {pc : Nat} {ls : PLs} {st : List PV} {h : PM} {r : PR} (hs : p_invk k0 mi ix pc ls st h = some r) : m_ext h (pr_h r) := by
  unfold p_invk at hs
  try simp only [Bool.cond_eq_ite] at hs
  repeat' split at hs
  all_goals first
    | (cases hs; done)
    | exact nx_ext m_ext.rf hs
    | exact nx_ext si_ext hs
    | exact nx_ext sr_ext hs
    | exact nx_ext cpy_ext hs
    | exact nx_ext m_new_ext hs
    | exact call_ext hs
    | exact p_copy_ext hs
    | (cases Option.some.inj hs; exact m_exc_ext)
theorem p_special_ext {mi : Nat × Nat} {ix : Nat} {pc : Nat} {ls : PLs} {st : List PV} {h : PM} {r : PR} (hs : p_special mi ix pc ls st h = some r) : m_ext h (pr_h r) := by
  unfold p_special at hs
  try simp only [Bool.cond_eq_ite] at hs
  repeat' split at hs
  all_goals first
    | (cases hs; done)
    | exact nx_ext m_ext.rf hs
    | exact nx_ext si_ext hs
    | exact nx_ext sr_ext hs
    | exact nx_ext cpy_ext hs
    | exact nx_ext m_new_ext hs
    | exact call_ext hs
    | exact p_copy_ext hs
    | (cases Option.some.inj hs; exact m_exc_ext)
theorem p_mm_ext {f : Int → Int → Int} {pc : Nat} {ls : PLs} {st : List PV} {h : PM} {r : PR} (hs : p_mm f pc ls st h = some r) : m_ext h (pr_h r) := by
  unfold p_mm at hs
  try simp only [Bool.cond_eq_ite] at hs
  repeat' split at hs
  all_goals first
    | (cases hs; done)
    | exact nx_ext m_ext.rf hs
theorem p_static_ext {mi : Nat × Nat} {ix : Nat} {pc : Nat} {ls : PLs} {st : List PV} {h : PM} {r : PR} (hs : p_static mi ix pc ls st h = some r) : m_ext h (pr_h r) := by
  unfold p_static at hs
  try simp only [Bool.cond_eq_ite] at hs
  repeat' split at hs
  all_goals first
    | (cases hs; done)
    | exact nx_ext m_ext.rf hs
    | exact nx_ext si_ext hs
    | exact nx_ext sr_ext hs
    | exact nx_ext cpy_ext hs
    | exact nx_ext m_new_ext hs
    | exact call_ext hs
    | exact p_mm_ext hs
    | exact p_copy_ext hs
    | (cases Option.some.inj hs; exact m_exc_ext)
theorem ex_ext {mi : Nat × Nat} {i : Instr} {n pc : Nat} {ls : PLs} {st : List PV} {h : PM} {r : PR} (hs : pm_ex mi i n pc ls st h = some r) : m_ext h (pr_h r) := by
  unfold pm_ex at hs
  try simp only [Bool.cond_eq_ite] at hs
  repeat' split at hs
  all_goals first
    | (cases hs; done)
    | exact nx_ext m_ext.rf hs
    | exact p_i2_ext hs
    | exact p_i2d_ext hs
    | exact p_l2_ext hs
    | exact p_i1_ext hs
    | exact p_psi_ext hs
    | exact p_lda_ext hs
    | exact p_sta_ext hs
    | exact p_stl_ext hs
    | exact p_sw_ext hs
    | exact p_get_ext hs
    | exact p_put_ext hs
    | exact p_ald_ext hs
    | exact p_iast_ext hs
    | exact p_bast_ext hs
    | exact p_last_ext hs
    | exact p_aast_ext hs
    | exact p_alen_ext hs
    | exact p_newa_ext hs
    | exact p_new_ext hs
    | exact p_invk_ext hs
    | exact p_special_ext hs
    | exact p_static_ext hs
    | exact if_ext hs
    | (cases Option.some.inj hs; exact m_ext.rf)
theorem step_ext {mi : Nat × Nat} {cf : PCf} {r : PR} (hs : pm_step mi cf = some r) : m_ext cf.2.2.2 (pr_h r) := by
  unfold pm_step at hs
  split at hs
  · cases hs
  · exact bif_ext (fun r hr => ex_ext hr) hs
theorem run_ext : ∀ (n d : Nat) (mi : Nat × Nat) (cf : PCf) (o : PO) (h : PM), pm_run n d mi cf = some (o, h) → m_ext cf.2.2.2 h := by
  intro n
  induction n with
  | zero => intro d mi cf o h hr; cases hr
  | succ n ih =>
    intro d mi cf o h hr
    unfold pm_run at hr
    split at hr
    · cases hr
    · rename_i cf' hs
      exact (step_ext hs).tr (ih _ _ _ _ _ hr)
    · rename_i q hs
      cases Option.some.inj hr
      exact step_ext hs
    · rename_i mj av cf' hs
      have e1 := step_ext hs
      split at hr
      · cases hr
      · split at hr
        · cases hr
        · split at hr
          · cases hr
          · split at hr
            · cases hr
            · rename_i v h1 hq
              exact e1.tr ((ih _ _ _ _ _ hq).tr (ih _ _ _ _ _ hr))
            · rename_i ex h1 hq
              split at hr
              · exact e1.tr ((ih _ _ _ _ _ hq).tr (ih _ _ _ _ _ hr))
              · cases Option.some.inj hr
                have hz := ih _ _ _ _ _ hq
                exact e1.tr hz
              · cases hr
end
