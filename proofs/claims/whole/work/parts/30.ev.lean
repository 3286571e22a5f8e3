/-! ===== runs of the pure machine: rules ===== -/
noncomputable section
theorem run_succ : ∀ (n d : Nat) (mi : Nat × Nat) (cf : PCf) (r : PO × PM), pm_run n d mi cf = some r → pm_run (n + 1) d mi cf = some r := by
  intro n
  induction n with
  | zero => intro d mi cf r h; cases h
  | succ n ih =>
    intro d mi cf r h
    unfold pm_run at h ⊢
    cases hs : pm_step mi cf with
    | none => rw [hs] at h; cases h
    | some q =>
      rw [hs] at h
      rcases q with cf' | ⟨mj, av, cf'⟩ | r'
      · exact ih d mi cf' r h
      · cases d with
        | zero => cases h
        | succ d =>
          dsimp only at h ⊢
          cases hi : pm_inf mj with
          | none => rw [hi] at h; cases h
          | some inf =>
            obtain ⟨i1, i2, maxL, i4⟩ := inf
            rw [hi] at h
            dsimp only at h ⊢
            cases he : p_entry av maxL with
            | none => rw [he] at h; cases h
            | some ls0 =>
              rw [he] at h
              dsimp only at h ⊢
              cases hc : pm_run n d mj (0, ls0, [], cf'.2.2.2) with
              | none => rw [hc] at h; cases h
              | some rc =>
                rw [hc] at h
                rw [ih _ _ _ _ hc]
                obtain ⟨o, h1⟩ := rc
                cases o with
                | inl v => exact ih _ _ _ _ h
                | inr e =>
                  dsimp only at h ⊢
                  cases hh : p_hnd mi cf'.1 e cf'.2.1 with
                  | none => rw [hh] at h; cases h
                  | some w =>
                    rw [hh] at h
                    cases w with
                    | none => exact h
                    | some w => exact ih _ _ _ _ h
      · exact h
theorem run_le {n n' d : Nat} {mi : Nat × Nat} {cf : PCf} {r : PO × PM} (hn : n ≤ n') (h : pm_run n d mi cf = some r) : pm_run n' d mi cf = some r := by
  induction hn with
  | refl => exact h
  | step _ ih => exact run_succ _ _ _ _ _ ih
theorem run_deep : ∀ (n d : Nat) (mi : Nat × Nat) (cf : PCf) (r : PO × PM), pm_run n d mi cf = some r → pm_run n (d + 1) mi cf = some r := by
  intro n
  induction n with
  | zero => intro d mi cf r h; cases h
  | succ n ih =>
    intro d mi cf r h
    unfold pm_run at h ⊢
    cases hs : pm_step mi cf with
    | none => rw [hs] at h; cases h
    | some q =>
      rw [hs] at h
      rcases q with cf' | ⟨mj, av, cf'⟩ | r'
      · exact ih d mi cf' r h
      · cases d with
        | zero => cases h
        | succ d =>
          dsimp only at h ⊢
          cases hi : pm_inf mj with
          | none => rw [hi] at h; cases h
          | some inf =>
            obtain ⟨i1, i2, maxL, i4⟩ := inf
            rw [hi] at h
            dsimp only at h ⊢
            cases he : p_entry av maxL with
            | none => rw [he] at h; cases h
            | some ls0 =>
              rw [he] at h
              dsimp only at h ⊢
              cases hc : pm_run n d mj (0, ls0, [], cf'.2.2.2) with
              | none => rw [hc] at h; cases h
              | some rc =>
                rw [hc] at h
                rw [ih _ _ _ _ hc]
                obtain ⟨o, h1⟩ := rc
                cases o with
                | inl v => exact ih _ _ _ _ h
                | inr e =>
                  dsimp only at h ⊢
                  cases hh : p_hnd mi cf'.1 e cf'.2.1 with
                  | none => rw [hh] at h; cases h
                  | some w =>
                    rw [hh] at h
                    cases w with
                    | none => exact h
                    | some w => exact ih _ _ _ _ h
      · exact h
theorem Ev.deep {d d' : Nat} {mi : Nat × Nat} {cf : PCf} {r : PO × PM} (h : Ev d mi cf r) (hd : d ≤ d') : Ev d' mi cf r := by
  obtain ⟨n, h⟩ := h
  refine ⟨n, ?_⟩
  induction hd with
  | refl => exact h
  | step _ ih => exact run_deep _ _ _ _ _ ih
section
variable {d : Nat} {mi : Nat × Nat} {r : PO × PM}
theorem ev_step {cf cf' : PCf} (h : pm_step mi cf = some (.inl cf')) (k : Ev d mi cf' r) : Ev d mi cf r := by
  obtain ⟨n, k⟩ := k
  refine ⟨n + 1, ?_⟩
  unfold pm_run
  rw [h]
  exact k
/-- steps that are neither calls nor ends -/
def pm_go (mi : Nat × Nat) : Nat → PCf → Option PCf
  | 0, cf => some cf
  | k + 1, cf => match pm_step mi cf with
    | some (.inl cf') => pm_go mi k cf'
    | _ => none
theorem ev_go {cf cf' : PCf} (k : Nat) (h : pm_go mi k cf = some cf') (g : Ev d mi cf' r) : Ev d mi cf r := by
  induction k generalizing cf with
  | zero => cases h; exact g
  | succ k ih =>
    unfold pm_go at h
    cases hs : pm_step mi cf with
    | none => rw [hs] at h; cases h
    | some q =>
      rw [hs] at h
      rcases q with c | q
      · exact ev_step hs (ih h)
      · cases h
theorem ev_end {cf : PCf} (h : pm_step mi cf = some (.inr (.inr r))) : Ev d mi cf r := ⟨1, by unfold pm_run; rw [h]⟩
/-- a call's contract: the method mj with the arguments av out of the heap h answers v and leaves h1, within depth d -/
def Ca (d : Nat) (mj : Nat × Nat) (av : List PV) (h : PM) (o : PO) (h1 : PM) : Prop := ∃ inf ls0, pm_inf mj = some inf ∧ p_entry av inf.2.2.1 = some ls0 ∧ Ev d mj (0, ls0, [], h) (o, h1)
theorem Ca.deep {d d' : Nat} {mj : Nat × Nat} {av : List PV} {h h1 : PM} {o : PO} (c : Ca d mj av h o h1) (hd : d ≤ d') : Ca d' mj av h o h1 := by
  obtain ⟨inf, ls0, a, b, e⟩ := c
  exact ⟨inf, ls0, a, b, e.deep hd⟩
theorem Ca.of {d : Nat} {mj : Nat × Nat} {av : List PV} {h h1 : PM} {o : PO} {inf : PInf} {ls0 : PLs} (hi : pm_inf mj = some inf) (he : p_entry av inf.2.2.1 = some ls0) (e : Ev d mj (0, ls0, [], h) (o, h1)) : Ca d mj av h o h1 := ⟨inf, ls0, hi, he, e⟩
theorem ev_call {cf : PCf} {mj : Nat × Nat} {av : List PV} {pc : Nat} {ls : PLs} {st : List PV} {h h1 : PM} {v : Option PV} (hs : pm_step mi cf = some (.inr (.inl (mj, av, (pc, ls, st, h))))) (c : Ca d mj av h (.inl v) h1) (k : Ev (d + 1) mi (pc + 3, ls, v.toList ++ st, h1) r) : Ev (d + 1) mi cf r := by
  obtain ⟨inf, ls0, hi, he, n1, c⟩ := c
  obtain ⟨n2, k⟩ := k
  refine ⟨max n1 n2 + 1, ?_⟩
  unfold pm_run
  rw [hs]
  dsimp only
  rw [hi]
  obtain ⟨i1, i2, maxL, i4⟩ := inf
  have he : p_entry av maxL = some ls0 := he
  dsimp only
  rw [he]
  dsimp only
  rw [run_le (Nat.le_max_left n1 n2) c]
  exact run_le (Nat.le_max_right n1 n2) k
/-- a call that throws, caught here -/
theorem ev_catch {cf : PCf} {mj : Nat × Nat} {av : List PV} {pc pc' e : Nat} {ls ls' : PLs} {st : List PV} {h h1 : PM} (hs : pm_step mi cf = some (.inr (.inl (mj, av, (pc, ls, st, h))))) (c : Ca d mj av h (.inr e) h1) (hh : p_hnd mi pc e ls = some (some (pc', ls'))) (k : Ev (d + 1) mi (pc', ls', [], h1) r) : Ev (d + 1) mi cf r := by
  obtain ⟨inf, ls0, hi, he, n1, c⟩ := c
  obtain ⟨n2, k⟩ := k
  refine ⟨max n1 n2 + 1, ?_⟩
  unfold pm_run
  rw [hs]
  dsimp only
  rw [hi]
  obtain ⟨i1, i2, maxL, i4⟩ := inf
  have he : p_entry av maxL = some ls0 := he
  dsimp only
  rw [he]
  dsimp only
  rw [run_le (Nat.le_max_left n1 n2) c]
  dsimp only
  rw [hh]
  exact run_le (Nat.le_max_right n1 n2) k
/-- a call that throws, not caught here -/
theorem ev_pass {cf : PCf} {mj : Nat × Nat} {av : List PV} {pc e : Nat} {ls : PLs} {st : List PV} {h h1 : PM} (hs : pm_step mi cf = some (.inr (.inl (mj, av, (pc, ls, st, h))))) (c : Ca d mj av h (.inr e) h1) (hh : p_hnd mi pc e ls = some none) : Ev (d + 1) mi cf (.inr e, h1) := by
  obtain ⟨inf, ls0, hi, he, n1, c⟩ := c
  refine ⟨n1 + 1, ?_⟩
  unfold pm_run
  rw [hs]
  dsimp only
  rw [hi]
  obtain ⟨i1, i2, maxL, i4⟩ := inf
  have he : p_entry av maxL = some ls0 := he
  dsimp only
  rw [he]
  dsimp only
  rw [c]
  dsimp only
  rw [hh]
end
end
