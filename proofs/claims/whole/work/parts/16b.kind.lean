/-! ===== what kind of step an instruction makes ===== -/
noncomputable section
theorem nx_in {pc n : Nat} {ls : PLs} {st : List PV} {h : PM} {r : PR} (hs : p_nx pc n ls st h = some r) : ∃ cf, r = .inl cf := by
  unfold p_nx at hs
  cases Option.some.inj hs
  exact ⟨_, rfl⟩
theorem if_in {b : Bool} {pc : Nat} {off : Int} {ls : PLs} {st : List PV} {h : PM} {r : PR} (hs : p_if b pc off ls st h = some r) : ∃ cf, r = .inl cf := by
  unfold p_if at hs
  simp only [Bool.cond_eq_ite] at hs
  repeat' split at hs
  all_goals first
    | (cases hs; done)
    | exact nx_in hs
theorem p_i2_in {f : Int → Int → Int} {pc : Nat} {ls : PLs} {st : List PV} {h : PM} {r : PR} (hs : p_i2 f pc ls st h = some r) : ∃ cf, r = .inl cf := by
  unfold p_i2 at hs
  try simp only [Bool.cond_eq_ite] at hs
  repeat' split at hs
  all_goals first
    | (cases hs; done)
    | exact nx_in hs
theorem p_i2d_in {f : Int → Int → Int} {pc : Nat} {ls : PLs} {st : List PV} {h : PM} {r : PR} (hs : p_i2d f pc ls st h = some r) : ∃ cf, r = .inl cf := by
  unfold p_i2d at hs
  try simp only [Bool.cond_eq_ite] at hs
  repeat' split at hs
  all_goals first
    | (cases hs; done)
    | exact nx_in hs
theorem p_l2_in {f : Int → Int → Int} {pc : Nat} {ls : PLs} {st : List PV} {h : PM} {r : PR} (hs : p_l2 f pc ls st h = some r) : ∃ cf, r = .inl cf := by
  unfold p_l2 at hs
  try simp only [Bool.cond_eq_ite] at hs
  repeat' split at hs
  all_goals first
    | (cases hs; done)
    | exact nx_in hs
theorem p_i1_in {f : Int → Int} {pc : Nat} {ls : PLs} {st : List PV} {h : PM} {r : PR} (hs : p_i1 f pc ls st h = some r) : ∃ cf, r = .inl cf := by
  unfold p_i1 at hs
  try simp only [Bool.cond_eq_ite] at hs
  repeat' split at hs
  all_goals first
    | (cases hs; done)
    | exact nx_in hs
theorem p_psi_in {v : Int} {b : Bool} {n : Nat} {pc : Nat} {ls : PLs} {st : List PV} {h : PM} {r : PR} (hs : p_psi v b pc n ls st h = some r) : ∃ cf, r = .inl cf := by
  unfold p_psi at hs
  try simp only [Bool.cond_eq_ite] at hs
  repeat' split at hs
  all_goals first
    | (cases hs; done)
    | exact nx_in hs
theorem p_lda_in {t k n : Nat} {pc : Nat} {ls : PLs} {st : List PV} {h : PM} {r : PR} (hs : p_lda t k pc n ls st h = some r) : ∃ cf, r = .inl cf := by
  unfold p_lda at hs
  try simp only [Bool.cond_eq_ite] at hs
  repeat' split at hs
  all_goals first
    | (cases hs; done)
    | exact nx_in hs
theorem p_sta_in {t k n : Nat} {pc : Nat} {ls : PLs} {st : List PV} {h : PM} {r : PR} (hs : p_sta t k pc n ls st h = some r) : ∃ cf, r = .inl cf := by
  unfold p_sta at hs
  try simp only [Bool.cond_eq_ite] at hs
  repeat' split at hs
  all_goals first
    | (cases hs; done)
    | exact nx_in hs
theorem p_stl_in {k n : Nat} {pc : Nat} {ls : PLs} {st : List PV} {h : PM} {r : PR} (hs : p_stl k pc n ls st h = some r) : ∃ cf, r = .inl cf := by
  unfold p_stl at hs
  try simp only [Bool.cond_eq_ite] at hs
  repeat' split at hs
  all_goals first
    | (cases hs; done)
    | exact nx_in hs
theorem p_sw_in {dflt lo hi : Int} {offs : Array Int} {pc : Nat} {ls : PLs} {st : List PV} {h : PM} {r : PR} (hs : p_sw pc dflt lo hi offs ls st h = some r) : ∃ cf, r = .inl cf := by
  unfold p_sw at hs
  try simp only [Bool.cond_eq_ite] at hs
  repeat' split at hs
  all_goals first
    | (cases hs; done)
    | exact nx_in hs
theorem p_get_in {mi : Nat × Nat} {ix n : Nat} {pc : Nat} {ls : PLs} {st : List PV} {h : PM} {r : PR} (hs : p_get mi ix pc n ls st h = some r) : ∃ cf, r = .inl cf := by
  unfold p_get at hs
  try simp only [Bool.cond_eq_ite] at hs
  repeat' split at hs
  all_goals first
    | (cases hs; done)
    | exact nx_in hs
theorem p_put_in {mi : Nat × Nat} {ix n : Nat} {pc : Nat} {ls : PLs} {st : List PV} {h : PM} {r : PR} (hs : p_put mi ix pc n ls st h = some r) : ∃ cf, r = .inl cf := by
  unfold p_put at hs
  try simp only [Bool.cond_eq_ite] at hs
  repeat' split at hs
  all_goals first
    | (cases hs; done)
    | exact nx_in hs
theorem p_ald_in {k0 k1 t : Nat} {pc : Nat} {ls : PLs} {st : List PV} {h : PM} {r : PR} (hs : p_ald k0 k1 t pc ls st h = some r) : ∃ cf, r = .inl cf := by
  unfold p_ald at hs
  try simp only [Bool.cond_eq_ite] at hs
  repeat' split at hs
  all_goals first
    | (cases hs; done)
    | exact nx_in hs
theorem p_iast_in {pc : Nat} {ls : PLs} {st : List PV} {h : PM} {r : PR} (hs : p_iast pc ls st h = some r) : ∃ cf, r = .inl cf := by
  unfold p_iast at hs
  try simp only [Bool.cond_eq_ite] at hs
  repeat' split at hs
  all_goals first
    | (cases hs; done)
    | exact nx_in hs
theorem p_bast_in {pc : Nat} {ls : PLs} {st : List PV} {h : PM} {r : PR} (hs : p_bast pc ls st h = some r) : ∃ cf, r = .inl cf := by
  unfold p_bast at hs
  try simp only [Bool.cond_eq_ite] at hs
  repeat' split at hs
  all_goals first
    | (cases hs; done)
    | exact nx_in hs
theorem p_last_in {pc : Nat} {ls : PLs} {st : List PV} {h : PM} {r : PR} (hs : p_last pc ls st h = some r) : ∃ cf, r = .inl cf := by
  unfold p_last at hs
  try simp only [Bool.cond_eq_ite] at hs
  repeat' split at hs
  all_goals first
    | (cases hs; done)
    | exact nx_in hs
theorem p_aast_in {pc : Nat} {ls : PLs} {st : List PV} {h : PM} {r : PR} (hs : p_aast pc ls st h = some r) : ∃ cf, r = .inl cf := by
  unfold p_aast at hs
  try simp only [Bool.cond_eq_ite] at hs
  repeat' split at hs
  all_goals first
    | (cases hs; done)
    | exact nx_in hs
theorem p_alen_in {pc : Nat} {ls : PLs} {st : List PV} {h : PM} {r : PR} (hs : p_alen pc ls st h = some r) : ∃ cf, r = .inl cf := by
  unfold p_alen at hs
  try simp only [Bool.cond_eq_ite] at hs
  repeat' split at hs
  all_goals first
    | (cases hs; done)
    | exact nx_in hs
theorem p_newa_in {kd n : Nat} {pc : Nat} {ls : PLs} {st : List PV} {h : PM} {r : PR} (hs : p_newa kd pc n ls st h = some r) : ∃ cf, r = .inl cf := by
  unfold p_newa at hs
  try simp only [Bool.cond_eq_ite] at hs
  repeat' split at hs
  all_goals first
    | (cases hs; done)
    | exact nx_in hs
theorem p_copy_in {pc : Nat} {ls : PLs} {st : List PV} {h : PM} {r : PR} (hs : p_copy pc ls st h = some r) : ∃ cf, r = .inl cf := by
  unfold p_copy at hs
  try simp only [Bool.cond_eq_ite] at hs
  repeat' split at hs
  all_goals first
    | (cases hs; done)
    | exact nx_in hs
theorem p_mm_in {f : Int → Int → Int} {pc : Nat} {ls : PLs} {st : List PV} {h : PM} {r : PR} (hs : p_mm f pc ls st h = some r) : ∃ cf, r = .inl cf := by
  unfold p_mm at hs
  try simp only [Bool.cond_eq_ite] at hs
  repeat' split at hs
  all_goals first
    | (cases hs; done)
    | exact nx_in hs
/-- a step of an instruction that neither calls, ends nor throws -/
theorem ex_kind {mi : Nat × Nat} {i : Instr} {n pc : Nat} {ls : PLs} {st : List PV} {h : PM} {r : PR} (hs : pm_ex mi i n pc ls st h = some r) :
    (∃ cf, r = .inl cf) ∨ (∃ ix, i = .invokevirtual ix) ∨ (∃ ix, i = .invokespecial ix) ∨ (∃ ix, i = .invokestatic ix) ∨ (∃ ix, i = .new ix) ∨ i = .ireturn ∨ i = .lreturn ∨ i = .areturn ∨ i = .return_ := by
  cases i with
  | invokevirtual ix => exact Or.inr (Or.inl ⟨ix, rfl⟩)
  | invokespecial ix => exact Or.inr (Or.inr (Or.inl ⟨ix, rfl⟩))
  | invokestatic ix => exact Or.inr (Or.inr (Or.inr (Or.inl ⟨ix, rfl⟩)))
  | new ix => exact Or.inr (Or.inr (Or.inr (Or.inr (Or.inl ⟨ix, rfl⟩))))
  | ireturn => exact Or.inr (Or.inr (Or.inr (Or.inr (Or.inr (Or.inl rfl)))))
  | lreturn => exact Or.inr (Or.inr (Or.inr (Or.inr (Or.inr (Or.inr (Or.inl rfl))))))
  | areturn => exact Or.inr (Or.inr (Or.inr (Or.inr (Or.inr (Or.inr (Or.inr (Or.inl rfl)))))))
  | return_ => exact Or.inr (Or.inr (Or.inr (Or.inr (Or.inr (Or.inr (Or.inr (Or.inr rfl)))))))
  | _ =>
    left
    unfold pm_ex at hs
    dsimp only at hs
    try simp only [Bool.cond_eq_ite] at hs
    repeat' split at hs
    all_goals first
      | (cases hs; done)
      | exact nx_in hs
      | exact p_i2_in hs
      | exact p_i2d_in hs
      | exact p_l2_in hs
      | exact p_i1_in hs
      | exact p_psi_in hs
      | exact p_lda_in hs
      | exact p_sta_in hs
      | exact p_stl_in hs
      | exact p_sw_in hs
      | exact p_get_in hs
      | exact p_put_in hs
      | exact p_ald_in hs
      | exact p_iast_in hs
      | exact p_bast_in hs
      | exact p_last_in hs
      | exact p_aast_in hs
      | exact p_alen_in hs
      | exact p_newa_in hs
      | exact if_in hs
/-- a call: what was popped, what is called -/
theorem call_inv {stc : Bool} {rk : Nat} {mj : Nat × Nat} {pc : Nat} {ls : PLs} {st : List PV} {h : PM} {r : PR} (hs : p_call stc rk mj pc ls st h = some r) :
    ∃ inf av st', pm_inf mj = some inf ∧ r = .inr (.inl (mj, av, (pc, ls, st', h))) ∧ p_room st' = true ∧ st = av.reverse ++ st' ∧ ((stc = true ∧ av.length = inf.2.2.2.2.2.1) ∨ (stc = false ∧ ∃ n a av', av = vR (some (rk, n, a)) :: av' ∧ av'.length = inf.2.2.2.2.2.1)) := by
  unfold p_call at hs
  split at hs
  · cases hs
  · rename_i y by0 mL rt sc na hh hinf
    split at hs
    · cases hs
    · rename_i av st' hpop
      obtain ⟨w, w1, w2, w3⟩ := pop_spec _ _ _ _ _ hpop
      rw [List.append_nil] at w3
      have hst : st = av.reverse ++ st' := by rw [w3, List.reverse_reverse]; exact w2
      have hlen : av.length = (bif stc then na else na + 1) := by rw [w3, List.length_reverse]; exact w1
      cases hroom : p_room st' with
      | false => rw [hroom] at hs; cases hs
      | true =>
        rw [hroom] at hs
        cases stc with
        | true =>
          have hs := Option.some.inj hs
          exact ⟨_, av, st', hinf, hs.symm, hroom, hst, Or.inl ⟨rfl, hlen⟩⟩
        | false =>
          simp only [cond_true, cond_false] at hs
          split at hs
          · rename_i kd n a av'
            cases hk : Nat.beq kd rk with
            | false => rw [hk] at hs; cases hs
            | true =>
              rw [hk] at hs
              have hk := beq_t hk
              subst hk
              have hs := Option.some.inj hs
              have hl2 : av'.length = na := by
                have : (av'.length + 1) = na + 1 := hlen
                omega
              exact ⟨_, _, st', hinf, hs.symm, hroom, hst, Or.inr ⟨rfl, n, a, av', rfl, hl2⟩⟩
          · cases hs
end
