noncomputable section
section Run
variable {l : Launch}
theorem nw_end {mi : Nat × Nat} {ix pc : Nat} {ls : PLs} {st : List PV} {h : PM} {o : PO} {hF : PM} (hs : p_new mi ix pc ls st h = some (.inr (.inr (o, hF)))) : ∃ ex x ic y z, o = .inr ex ∧ hF = m_exc h ∧ pm_newc mi.1 ix = some (1, ex, x) ∧ pm_code mi (pc + 3) = some (.dup, 1) ∧ pm_code mi (pc + 4) = some (.invokespecial ic, 3) ∧ pm_code mi (pc + 7) = some (.athrow, 1) ∧ pm_mth mi.1 ic = some (7, ex, y, z) ∧ p_room st = true ∧ p_notab mi = true := by
  unfold p_new at hs
  split at hs
  · obtain ⟨cf, hcf⟩ := nx_in hs
    cases hcf
  · rename_i ex x hn
    split at hs
    · rename_i ic h3 h4 h7
      split at hs
      · rename_i k e' y z hm
        cases hc : (Nat.beq k 7 && Nat.beq ex e' && p_room st && p_notab mi) with
        | false => rw [hc] at hs; cases hs
        | true =>
          rw [hc] at hs
          have hs := Option.some.inj hs
          simp only [Bool.and_eq_true] at hc
          obtain ⟨⟨⟨c1, c2⟩, c3⟩, c4⟩ := hc
          have c1 := beq_t c1
          have c2 := beq_t c2
          subst c1; subst c2
          have hs : (Sum.inr (Sum.inr (Sum.inr ex, m_exc h)) : PR) = .inr (.inr (o, hF)) := hs
          cases hs
          exact ⟨ex, x, ic, y, z, rfl, rfl, hn, h3, h4, h7, hm, c3, c4⟩
      · cases hs
    · cases hs
  · cases hs
theorem notab {mi : Nat × Nat} {inf : PInf} (h : p_notab mi = true) (hi : pm_inf mi = some inf) : inf.2.2.2.2.2.2 = none := by
  obtain ⟨y1, y2, y3, y4, y5, y6, y7⟩ := inf
  unfold p_notab at h
  rw [hi] at h
  cases y7 with
  | none => rfl
  | some q => cases h
theorem notab_call {stc : Bool} {rk : Nat} {mj : Nat × Nat} {pc : Nat} {ls : PLs} {st : List PV} {h : PM} {r : PR} (hs : p_call stc rk mj pc ls st h = some r) : ∃ q, r = .inr (.inl q) := by
  obtain ⟨inf, av, st', h1, h2, -⟩ := call_inv hs
  exact ⟨_, h2⟩
theorem p_rt_eq {mi : Nat × Nat} {inf : PInf} (h : pm_inf mi = some inf) : p_rt mi = inf.2.2.2.1 := by
  unfold p_rt
  rw [h]
theorem map_rev {ad : Nat → Nat} {v : PV} {av st : List PV} : ((v :: av).reverse ++ st).map (tv ad) = (av.map (tv ad)).reverse ++ tv ad v :: st.map (tv ad) := by
  rw [List.map_append, List.map_reverse, List.map_cons, List.reverse_cons, List.append_assoc]
  rfl
set_option maxHeartbeats 4000000 in
theorem run_sound (hTB : TB) (hTM : TM) (hTX : TX) (hl : l.stackTraces = false) : ∀ n, FRM l n := by
  intro n
  induction n with
  | zero => intro d mi cf o hF hr; cases hr
  | succ n ih =>
    have hCT := ct_of_frm hTX hl ih
    intro d mi cf o hF hr p e R s s0 m args below meth c Q X D cA base c0 k0 inf own hFX hSX hRc hRs hRf hRl hEN
    obtain ⟨pc, ls, st, h⟩ := cf
    have hext9 := run_ext _ _ _ _ _ _ hr
    have hext9 : m_ext h hF := hext9
    unfold pm_run at hr
    cases hst : pm_step mi (pc, ls, st, h) with
    | none => rw [hst] at hr; cases hr
    | some r =>
      rw [hst] at hr
      have hFX0 := hFX
      obtain ⟨f1, f2, hx, hb, hml, hret, hown, hts, hlocks, hnm, htab⟩ := hFX
      unfold pm_step at hst
      cases hco : pm_code mi pc with
      | none => simp only [hco] at hst; cases hst
      | some q =>
        obtain ⟨i, len⟩ := q
        simp only [hco] at hst
        cases hlen : p_lenok i len with
        | false => rw [hlen] at hst; cases hst
        | true =>
          rw [hlen] at hst
          have hst : pm_ex mi i len pc ls st h = some r := hst
          have hd := hTB.1 mi inf pc i len f1 hco
          -- calls
          have hcall : ∀ (stc : Bool) (rk : Nat) (mj : Nat × Nat) (inf' : PInf), pm_inf mj = some inf' → MC inf' → p_call stc rk mj pc ls st h = some r →
              (∀ (d' : Nat) (av st' : List PV) (ls0 : PLs) (v : Option PV) (h1 : PM), d = d' + 1 → okT h av → p_room st' = true → ((stc = true ∧ av.length = inf'.2.2.2.2.2.1) ∨ (stc = false ∧ ∃ n0 a0 av', av = vR (some (rk, n0, a0)) :: av' ∧ av'.length = inf'.2.2.2.2.2.1)) → m_ext h h1 → m_ext h1 hF → ∀ (ad : Nat → Nat) (lsR : Array Slot) (H : Heap) (locs : List Loc), PI X D cA base ad h s H locs → lsR.size = inf.2.2.1 → c0 ≤ m_ce h → k0 ≤ m_sl h →
                Met l inf'.1 (wsM inf') (rmD d' (m_ce h1 - m_ce h) (m_sl h1 - m_sl h)) (Pc0 X D cA base s0 ad h av) (Qc0 X D cA base ad h v h1) (m_ce h1 - m_ce h) (m_sl h1 - m_sl h) (AB base) →
                ∃ a, va_Run p l e R s m args below meth c H locs (m_ce h - c0) (m_sl h - k0) (m_ce h1 - m_ce h) (m_sl h1 - m_sl h) (F0 m pc lsR ((av.reverse ++ st').map (tv ad))) (st'.map (tv ad)) (Qc0 X D cA base ad h v h1 a) (AB base)) →
              (∀ (d' : Nat) (av st' : List PV) (ls0 : PLs) (ex : Nat) (h1 : PM), p_vir mi pc = true → d = d' + 1 → okT h av → p_room st' = true → ((stc = true ∧ av.length = inf'.2.2.2.2.2.1) ∨ (stc = false ∧ ∃ n0 a0 av', av = vR (some (rk, n0, a0)) :: av' ∧ av'.length = inf'.2.2.2.2.2.1)) → m_ext h h1 → m_ext h1 hF → ∀ (ad : Nat → Nat) (lsR : Array Slot) (H : Heap) (locs : List Loc), PI X D cA base ad h s H locs → lsR.size = inf.2.2.1 → c0 ≤ m_ce h → k0 ≤ m_sl h →
                vx_Met l inf'.1 (wsM inf') (rmD d' (m_ce h1 - m_ce h) (m_sl h1 - m_sl h)) (Pc0 X D cA base s0 ad h av) (fun _ _ _ _ => False) (XC0 X D cA base ad h ex h1) (m_ce h1 - m_ce h) (m_sl h1 - m_sl h) (AB base) →
                vx_Run p l e R s m args below meth c H locs (m_ce h - c0) (m_sl h - k0) (m_ce h1 - m_ce h) (m_sl h1 - m_sl h) (F0 m pc lsR ((av.reverse ++ st').map (tv ad))) (st'.map (tv ad)) (fun _ _ _ => False) (XC0 X D cA base ad h ex h1) (AB base)) →
              GG p l e R s m args below meth c Q X D cA base inf.2.2.1 c0 k0 (m_ce hF) (m_sl hF) (pc, ls, st, h) := by
            intro stc rk mj inf' hinf' hMC hpc hretk hthrk
            obtain ⟨inf9, av, st', hi9, hr9, hroom, hst9, hav⟩ := call_inv hpc
            cases Option.some.inj (hi9.symm.trans hinf')
            subst hr9
            cases d with
            | zero => cases hr
            | succ d' =>
              simp only [hinf'] at hr
              have hr : (match p_entry av inf'.2.2.1 with
                  | none => none
                  | some ls0 => match pm_run n d' mj (0, ls0, [], h) with
                    | none => none
                    | some (.inl v, h1) => pm_run n (d' + 1) mi (pc + 3, ls, v.toList ++ st', h1)
                    | some (.inr e, h1) => match p_hnd mi pc e ls with
                      | some (some (pc', ls')) => pm_run n (d' + 1) mi (pc', ls', [], h1)
                      | some none => some (.inr e, h1)
                      | none => none) = some (o, hF) := hr
              cases hent : p_entry av inf'.2.2.1 with
              | none => rw [hent] at hr; cases hr
              | some ls0 =>
                rw [hent] at hr
                have hr : (match pm_run n d' mj (0, ls0, [], h) with
                    | none => none
                    | some (.inl v, h1) => pm_run n (d' + 1) mi (pc + 3, ls, v.toList ++ st', h1)
                    | some (.inr e, h1) => match p_hnd mi pc e ls with
                      | some (some (pc', ls')) => pm_run n (d' + 1) mi (pc', ls', [], h1)
                      | some none => some (.inr e, h1)
                      | none => none) = some (o, hF) := hr
                cases hrun : pm_run n d' mj (0, ls0, [], h) with
                | none => rw [hrun] at hr; cases hr
                | some r9 =>
                  obtain ⟨o1, h1⟩ := r9
                  rw [hrun] at hr
                  have he1 : m_ext h h1 := run_ext _ _ _ _ _ _ hrun
                  intro ad lsR H locs hP hL hT hol q1 q2 q3 q4
                  have hT : okT h st := hT
                  have hol : okL h ls := hol
                  rw [hst9] at hT
                  have hTa : okT h av := fun w hw => hT w (List.mem_append_left _ (List.mem_reverse.mpr hw))
                  have hTs : okT h st' := fun w hw => hT w (List.mem_append_right _ hw)
                  have hct := hCT d' mj av ls0 h o1 h1 inf' hinf' hent hrun hMC X D cA base s0 ad
                  show W p l e R s m args below meth c H locs (m_ce h - c0) (m_sl h - k0) Q (F0 m pc lsR (st.map (tv ad)))
                  rw [hst9]
                  cases o1 with
                  | inl v =>
                    have hr : pm_run n (d' + 1) mi (pc + 3, ls, v.toList ++ st', h1) = some (o, hF) := hr
                    have he2 : m_ext h1 hF := run_ext _ _ _ _ _ _ hr
                    obtain ⟨a, hva⟩ := hretk d' av st' ls0 v h1 rfl hTa hroom hav he1 he2 ad lsR H locs hP hL.1 q1 q2 hct
                    exact call_ret he1 hva (ih (d' + 1) mi _ o hF hr p e R s s0 m args below meth c Q X D cA base c0 k0 inf own hFX0 hSX hRc hRs hRf hRl hEN) hP hL hTs hol q1 q2 he2.2.2.1 he2.2.2.2
                  | inr ex =>
                    have hr : (match p_hnd mi pc ex ls with
                      | some (some (pc', ls')) => pm_run n (d' + 1) mi (pc', ls', [], h1)
                      | some none => some (.inr ex, h1)
                      | none => none) = some (o, hF) := hr
                    have he2 : m_ext h1 hF := by
                      split at hr
                      · exact run_ext _ _ _ _ _ _ hr
                      · cases Option.some.inj hr; exact m_ext.rf
                      · cases hr
                    have hv9 : p_vir mi pc = true := by
                      cases hv : p_vir mi pc with
                      | true => rfl
                      | false =>
                        have : p_hnd mi pc ex ls = none := by unfold p_hnd; rw [hv]; rfl
                        rw [this] at hr
                        cases hr
                    have hvx := hthrk d' av st' ls0 ex h1 hv9 rfl hTa hroom hav he1 he2 ad lsR H locs hP hL.1 q1 q2 hct
                    exact call_thr (ls := ls) (a := #[]) he1 hvx (thr_go (st := st') hTB hTX ih hFX0 hSX hRc hRs hRf hRl hEN hr he1 he2 q1 q2 hL hol) hP q1 q2
          have hfr : ∀ {d' : Nat} {h1 : PM}, d = d' + 1 → m_ext h h1 → m_ext h1 hF → c0 ≤ m_ce h → k0 ≤ m_sl h → (d' + 13 ≤ R.frames ∧ 60 * (d' + 1) + 300 ≤ R.locals) ∧ ((m_ce h - c0) + (m_ce h1 - m_ce h) ≤ R.cells ∧ (m_sl h - k0) + (m_sl h1 - m_sl h) ≤ R.slots) := by
            intro d' h1 hd9 e1 e2 q1 q2
            have := e1.2.2.1
            have := e1.2.2.2
            have := e2.2.2.1
            have := e2.2.2.2
            refine ⟨⟨by omega, ?_⟩, by omega, by omega⟩
            rw [← hd9]
            exact hRl
          have hnvir : (∀ ix, i ≠ .invokevirtual ix) → p_vir mi pc = false := by
            intro hne
            unfold p_vir
            rw [hco]
            cases i with
            | invokevirtual ix => exact absurd rfl (hne ix)
            | _ => rfl
          by_cases hiv : ∃ ix, i = .invokevirtual ix
          · obtain ⟨ix, rfl⟩ := hiv
            have hn3 : len = 3 := beq_t hlen
            subst hn3
            have hst : p_invk (fun k => Nat.beq k 0) mi ix pc ls st h = some r := hst
            unfold p_invk at hst
            split at hst
            · rename_i k a b rk hm
              cases hk : Nat.beq k 0 with
              | false => simp only [hk, cond_false] at hst; cases hst
              | true =>
                simp only [hk, cond_true] at hst
                have hk := beq_t hk
                subst hk
                have hst : p_call false rk (a, b) pc ls st h = some r := hst
                obtain ⟨inf', hi', hMC, hLK⟩ := hTM.1 mi.1 own ix 0 a b rk f2 hm (by decide)
                rcases hLK with ⟨-, k1, k2, k3, k4, k5⟩ | ⟨z, -⟩ | ⟨z, -⟩ | ⟨z, -⟩ | ⟨z, -⟩
                · refine hcall false rk (a, b) inf' hi' hMC hst ?_ ?_
                  · intro d' av st' ls0 v h1 hd9 hTa hroom hav he1 he2 ad lsR H locs hP hLz q1 q2 hM
                    obtain ⟨g1, g2⟩ := hfr hd9 he1 he2 q1 q2
                    rcases hav with ⟨z, -⟩ | ⟨-, n0, a0, av', rfl, hl'⟩
                    · cases z
                    · refine ⟨#[], ?_⟩
                      have := call_virtual (l := l) (e := e) (below := below) (st := st') (R := R) hFX0 hSX hMC k1 k2 k3 k4 k5 g1.1 g1.2 hP hLz rfl hTa hl' hroom hd g2 hM
                      rw [map_rev]
                      exact this
                  · intro d' av st' ls0 ex h1 _ hd9 hTa hroom hav he1 he2 ad lsR H locs hP hLz q1 q2 hM
                    obtain ⟨g1, g2⟩ := hfr hd9 he1 he2 q1 q2
                    rcases hav with ⟨z, -⟩ | ⟨-, n0, a0, av', rfl, hl'⟩
                    · cases z
                    · have := call_virtualX (l := l) (e := e) (below := below) (st := st') (R := R) hFX0 hSX hMC k1 k2 k3 k4 k5 g1.1 g1.2 hP hLz rfl hTa hl' hroom hd g2 hM
                      rw [map_rev]
                      exact this
                · exact absurd z (by decide)
                · exact absurd z (by decide)
                · exact absurd z (by decide)
                · exact absurd z (by decide)
            · cases hst
          · have hiv : ∀ ix, i ≠ .invokevirtual ix := fun ix hq => hiv ⟨ix, hq⟩
            by_cases his : ∃ ix, i = .invokespecial ix
            · obtain ⟨ix, rfl⟩ := his
              have hn3 : len = 3 := beq_t hlen
              subst hn3
              have hst : p_special mi ix pc ls st h = some r := hst
              unfold p_special at hst
              split at hst
              · rename_i k a b rk hm
                cases hk5 : Nat.beq k 5 with
                | true =>
                  simp only [hk5, cond_true] at hst
                  have hk := beq_t hk5
                  subst hk
                  split at hst
                  · rename_i kd n9 a9 st' _ _
                    cases hroom : (!(Nat.beq kd 8) && p_room st') with
                    | false => rw [hroom] at hst; cases hst
                    | true =>
                      rw [hroom] at hst
                      obtain ⟨hk8, hroom⟩ := Bool.and_eq_true_iff.mp hroom
                      have hst : p_nx pc 3 ls st' h = some r := hst
                      unfold p_nx at hst
                      cases Option.some.inj hst
                      have hr : pm_run n d mi (pc + 3, ls, st', h) = some (o, hF) := hr
                      have K := ih d mi _ o hF hr p e R s s0 m args below meth c Q X D cA base c0 k0 inf own hFX0 hSX hRc hRs hRf hRl hEN
                      intro ad lsR H locs hP hL hT hol q1 q2 q3 q4
                      have hrs := p_room_sum (ad := ad) hroom
                      have hT : okT h (vR (some (kd, n9, a9)) :: st') := hT
                      have hq : tv ad (vR (some (kd, n9, a9))) = .ref (ad a9) := tv_ref (fun z => by rw [z] at hk8; cases hk8)
                      show W p l e R s m args below meth c H locs (m_ce h - c0) (m_sl h - k0) Q (F0 m pc lsR (tv ad (vR (some (kd, n9, a9))) :: st'.map (tv ad)))
                      rw [hq]
                      exact W.objInit hx hb hown (hts _ (hTM.2.1 mi.1 own ix a b rk f2 hm)) (hts _ hTM.2.2.1) (hts _ hTM.2.2.2.1) rfl (by show lsR.size = _; rw [hml]; exact hL.1) rfl hd (by omega) (by show 0 + _ + 12 ≤ R.locals; omega) (K ad lsR H locs hP hL hT.tail hol q1 q2 q3 q4)
                  · cases hst
                | false =>
                  simp only [hk5, cond_false] at hst
                  cases hk : (Nat.beq k 3 || Nat.beq k 4) with
                  | false => rw [hk] at hst; cases hst
                  | true =>
                    rw [hk] at hst
                    have hst : p_call false rk (a, b) pc ls st h = some r := hst
                    have hk34 : k = 3 ∨ k = 4 := by
                      rcases Bool.or_eq_true_iff.mp hk with z | z
                      · exact Or.inl (beq_t z)
                      · exact Or.inr (beq_t z)
                    obtain ⟨inf', hi', hMC, hLK⟩ := hTM.1 mi.1 own ix k a b rk f2 hm (by omega)
                    have hinit : (Cond.methodLink own ix inf'.1 ∈ wsG ∨ ∃ host, va_Nw (.methodLinkNest own ix inf'.1 host) s) ∧ Cond.instanceMethod inf'.1 ∈ wsG ∧ inf'.1.name = "<init>" ∧ inf'.2.2.2.1 = none ∧ inf'.2.2.2.2.2.2 = none ∧ RK rk inf'.1.cls := by
                      rcases hLK with ⟨z, -⟩ | ⟨z, -⟩ | ⟨z, -⟩ | ⟨z, k1, k2, k3, k4, k5, k6⟩ | ⟨z, k2, k3, k4, k5, k6⟩
                      · omega
                      · omega
                      · omega
                      · exact ⟨Or.inl k1, k2, k3, k4, k5, k6⟩
                      · subst z
                        exact ⟨Or.inr (hSX.2.2.2.2.2.2.2.2.2.2.2.1 mi.1 own ix 4 a b rk inf' f2 hm (Or.inl rfl) hi'), k2, k3, k4, k5, k6⟩
                    obtain ⟨k1, k2, k3, k4, k5, k6⟩ := hinit
                    refine hcall false rk (a, b) inf' hi' hMC hst ?_ ?_
                    · intro d' av st' ls0 v h1 hd9 hTa hroom hav he1 he2 ad lsR H locs hP hLz q1 q2 hM
                      obtain ⟨g1, g2⟩ := hfr hd9 he1 he2 q1 q2
                      rcases hav with ⟨z, -⟩ | ⟨-, n0, a0, av', rfl, hl'⟩
                      · cases z
                      · refine ⟨#[], ?_⟩
                        have := call_init (l := l) (e := e) (below := below) (st := st') (R := R) hFX0 hSX hMC k1 k2 k3 k4 k5 k6 g1.1 g1.2 hP hLz rfl hTa hl' hroom hd g2 hM
                        rw [map_rev]
                        exact this
                    · intro d' av st' ls0 ex h1 hv9
                      rw [hnvir hiv] at hv9
                      cases hv9
              · cases hst
            · have his : ∀ ix, i ≠ .invokespecial ix := fun ix hq => his ⟨ix, hq⟩
              by_cases hit : ∃ ix, i = .invokestatic ix
              · obtain ⟨ix, rfl⟩ := hit
                have hn3 : len = 3 := beq_t hlen
                subst hn3
                have hst : p_static mi ix pc ls st h = some r := hst
                unfold p_static at hst
                split at hst
                · rename_i k a b rk hm
                  cases hk6 : Nat.beq k 6 with
                  | true =>
                    simp only [hk6, cond_true] at hst
                    have hk := beq_t hk6
                    subst hk
                    obtain ⟨cf', rfl⟩ := p_copy_in hst
                    have hr : pm_run n d mi cf' = some (o, hF) := hr
                    have K := ih d mi _ o hF hr p e R s s0 m args below meth c Q X D cA base c0 k0 inf own hFX0 hSX hRc hRs hRf hRl hEN
                    exact sn_copy hx hb hml hown (hts _ (hTM.2.2.2.2.1 mi.1 own ix a b rk f2 hm)) (hts _ hTM.2.2.2.2.2.1) (hts _ hTM.2.2.2.2.2.2.1) (hts _ hTM.2.2.2.2.2.2.2.1) hSX.2.1 (by omega) (by omega) hd hst K
                  | false =>
                   simp only [hk6, cond_false] at hst
                   cases hk8 : Nat.beq k 8 with
                   | true =>
                    simp only [hk8, cond_true] at hst
                    have hk := beq_t hk8
                    subst hk
                    obtain ⟨cf', rfl⟩ := p_mm_in hst
                    have hr : pm_run n d mi cf' = some (o, hF) := hr
                    have K := ih d mi _ o hF hr p e R s s0 m args below meth c Q X D cA base c0 k0 inf own hFX0 hSX hRc hRs hRf hRl hEN
                    obtain ⟨t1, t2, t3, t4, t5, t6, t7⟩ := hTM.2.2.2.2.2.2.2.2
                    refine sn_mm (op := fun x y => if x < y then y else x) hst (fun _ _ => rfl) (fun x y ad st' lsR H locs cells slots hsz hrm hce hsl kk => ?_) K
                    exact va_mmax hx hb (by rw [hml, hsz]) hown (hts _ (t1 mi.1 own ix a b rk f2 hm)) (hts _ t4) (hts _ t3) (hts _ t5) (by omega) (by have h9 := p_room_sum (ad := ad) hrm; omega) (by omega) (by omega) hd kk
                   | false =>
                   simp only [hk8, cond_false] at hst
                   cases hk9 : Nat.beq k 9 with
                   | true =>
                    simp only [hk9, cond_true] at hst
                    have hk := beq_t hk9
                    subst hk
                    obtain ⟨cf', rfl⟩ := p_mm_in hst
                    have hr : pm_run n d mi cf' = some (o, hF) := hr
                    have K := ih d mi _ o hF hr p e R s s0 m args below meth c Q X D cA base c0 k0 inf own hFX0 hSX hRc hRs hRf hRl hEN
                    obtain ⟨t1, t2, t3, t4, t5, t6, t7⟩ := hTM.2.2.2.2.2.2.2.2
                    refine sn_mm (op := fun x y => if y < x then y else x) hst (fun _ _ => rfl) (fun x y ad st' lsR H locs cells slots hsz hrm hce hsl kk => ?_) K
                    exact va_mmin hx hb (by rw [hml, hsz]) hown (hts _ (t2 mi.1 own ix a b rk f2 hm)) (hts _ t6) (hts _ t3) (hts _ t7) (by omega) (by have h9 := p_room_sum (ad := ad) hrm; omega) (by omega) (by omega) hd kk
                   | false =>
                    simp only [hk9, cond_false] at hst
                    cases hk : (Nat.beq k 1 || Nat.beq k 2) with
                    | false => rw [hk] at hst; cases hst
                    | true =>
                      rw [hk] at hst
                      have hst : p_call true rk (a, b) pc ls st h = some r := hst
                      have hk12 : k = 1 ∨ k = 2 := by
                        rcases Bool.or_eq_true_iff.mp hk with z | z
                        · exact Or.inl (beq_t z)
                        · exact Or.inr (beq_t z)
                      obtain ⟨inf', hi', hMC, hLK⟩ := hTM.1 mi.1 own ix k a b rk f2 hm (by omega)
                      have hsta : (Cond.methodLink own ix inf'.1 ∈ wsG ∨ (inf'.2.2.2.2.2.2 = none ∧ ∃ host, va_Nw (.methodLinkNest own ix inf'.1 host) s)) ∧ Cond.static inf'.1 ∈ wsG := by
                        rcases hLK with ⟨z, -⟩ | ⟨z, k1, k2, k3⟩ | ⟨z, k1, k2, -⟩ | ⟨z, -⟩ | ⟨z, -⟩
                        · omega
                        · refine ⟨?_, k2⟩
                          rcases k1 with k1 | k1
                          · exact Or.inl k1
                          · refine Or.inr ⟨k3, ?_⟩
                            subst z
                            exact hSX.2.2.2.2.2.2.2.2.2.2.2.1 mi.1 own ix 1 a b rk inf' f2 hm (Or.inr ⟨rfl, k1⟩) hi'
                        · exact ⟨Or.inl k1, k2⟩
                        · omega
                        · omega
                      refine hcall true rk (a, b) inf' hi' hMC hst ?_ ?_
                      · intro d' av st' ls0 v h1 hd9 hTa hroom hav he1 he2 ad lsR H locs hP hLz q1 q2 hM
                        obtain ⟨g1, g2⟩ := hfr hd9 he1 he2 q1 q2
                        rcases hav with ⟨-, hl'⟩ | ⟨z, -⟩
                        · refine ⟨#[], ?_⟩
                          have := call_static (l := l) (e := e) (below := below) (st := st') (R := R) hFX0 hSX hMC hsta.1 hsta.2 g1.1 g1.2 hP hLz rfl hTa hl' hroom hd g2 hM
                          rw [List.map_append, List.map_reverse]
                          exact this
                        · cases z
                      · intro d' av st' ls0 ex h1 hv9
                        rw [hnvir hiv] at hv9
                        cases hv9
                · cases hst
              · have hit : ∀ ix, i ≠ .invokestatic ix := fun ix hq => hit ⟨ix, hq⟩
                rcases ex_kind hst with ⟨cf', rfl⟩ | ⟨ix, z⟩ | ⟨ix, z⟩ | ⟨ix, z⟩ | ⟨ix, rfl⟩ | rfl | rfl | rfl | rfl
                · have hr : pm_run n d mi cf' = some (o, hF) := hr
                  have he2 : m_ext cf'.2.2.2 hF := run_ext _ _ _ _ _ _ hr
                  have K := ih d mi cf' o hF hr p e R s s0 m args below meth c Q X D cA base c0 k0 inf own hFX0 hSX hRc hRs hRf hRl hEN
                  exact step_sound hTB hFX0 hSX rfl hRc hRs hco hlen (fun ix => ⟨hit ix, his ix, hiv ix⟩) hst he2.2.2.1 he2.2.2.2 K
                · exact absurd z (hiv ix)
                · exact absurd z (his ix)
                · exact absurd z (hit ix)
                · have hn3 : len = 3 := beq_t hlen
                  subst hn3
                  rcases r with cf' | q | ⟨o9, h9⟩
                  · have hr : pm_run n d mi cf' = some (o, hF) := hr
                    have he2 : m_ext cf'.2.2.2 hF := run_ext _ _ _ _ _ _ hr
                    have K := ih d mi cf' o hF hr p e R s s0 m args below meth c Q X D cA base c0 k0 inf own hFX0 hSX hRc hRs hRf hRl hEN
                    exact step_sound hTB hFX0 hSX rfl hRc hRs hco hlen (fun ix => ⟨hit ix, his ix, hiv ix⟩) hst he2.2.2.1 he2.2.2.2 K
                  · exfalso
                    have hst : p_new mi ix pc ls st h = some (.inr (.inl q)) := hst
                    unfold p_new at hst
                    simp only [Bool.cond_eq_ite] at hst
                    repeat' split at hst
                    all_goals first
                      | (cases hst; done)
                      | (obtain ⟨_, hz⟩ := nx_in hst; cases hz)
                  · have hr : some (o9, h9) = some (o, hF) := hr
                    cases Option.some.inj hr
                    obtain ⟨ex, x, ic, y, z, rfl, rfl, g1, g2, g3, g4, g5, g6, g7⟩ := nw_end hst
                    intro ad lsR H locs hP hL hT hol q1 q2 q3 q4
                    exact hEN.1 h ad lsR H locs pc ix ic x y z st rfl hP hL.1 hd (hTB.1 mi inf _ _ _ f1 g2) (hTB.1 mi inf _ _ _ f1 g3) (hTB.1 mi inf _ _ _ f1 g4) g1 g5 g6 (notab g7 f1) q1 q2
                · have hn1 : len = 1 := beq_t hlen
                  subst hn1
                  match st, hst with
                  | [.inl x], hst =>
                    have hst : (bif p_reti (p_rt mi) x then some (.inr (.inr (.inl (some (vI x)), h))) else none) = some r := hst
                    cases hc : p_reti (p_rt mi) x with
                    | false => rw [hc] at hst; cases hst
                    | true =>
                      rw [hc] at hst
                      cases Option.some.inj hst
                      have hr : some (.inl (some (vI x)), h) = some (o, hF) := hr
                      cases Option.some.inj hr
                      intro ad lsR H locs hP hL hT hol q1 q2 q3 q4
                      exact hEN ad lsR H locs pc .ireturn hP (fun w hw => by cases Option.some.inj hw; exact hT.head) hd ⟨rfl, by rw [p_rt_eq f1] at hc; exact hc⟩ q1 q2
                · have hn1 : len = 1 := beq_t hlen
                  subst hn1
                  match st, hst with
                  | [.inr (.inl x)], hst =>
                    have hst : (bif p_retl (p_rt mi) then some (.inr (.inr (.inl (some (vL x)), h))) else none) = some r := hst
                    cases hc : p_retl (p_rt mi) with
                    | false => rw [hc] at hst; cases hst
                    | true =>
                      rw [hc] at hst
                      cases Option.some.inj hst
                      have hr : some (.inl (some (vL x)), h) = some (o, hF) := hr
                      cases Option.some.inj hr
                      intro ad lsR H locs hP hL hT hol q1 q2 q3 q4
                      exact hEN ad lsR H locs pc .lreturn hP (fun w hw => by cases Option.some.inj hw; exact hT.head) hd ⟨rfl, by rw [p_rt_eq f1] at hc; exact hc⟩ q1 q2
                · have hn1 : len = 1 := beq_t hlen
                  subst hn1
                  match st, hst with
                  | [.inr (.inr x)], hst =>
                    have hst : (bif p_retr (p_rt mi) then some (.inr (.inr (.inl (some (vR x)), h))) else none) = some r := hst
                    cases hc : p_retr (p_rt mi) with
                    | false => rw [hc] at hst; cases hst
                    | true =>
                      rw [hc] at hst
                      cases Option.some.inj hst
                      have hr : some (.inl (some (vR x)), h) = some (o, hF) := hr
                      cases Option.some.inj hr
                      intro ad lsR H locs hP hL hT hol q1 q2 q3 q4
                      exact hEN ad lsR H locs pc .areturn hP (fun w hw => by cases Option.some.inj hw; exact hT.head) hd ⟨rfl, by rw [p_rt_eq f1] at hc; exact hc⟩ q1 q2
                · have hn1 : len = 1 := beq_t hlen
                  subst hn1
                  match st, hst with
                  | [], hst =>
                    have hst : (bif (p_rt mi).isNone then some (.inr (.inr (.inl none, h))) else none) = some r := hst
                    cases hc : (p_rt mi).isNone with
                    | false => rw [hc] at hst; cases hst
                    | true =>
                      rw [hc] at hst
                      cases Option.some.inj hst
                      have hr : some (.inl none, h) = some (o, hF) := hr
                      cases Option.some.inj hr
                      intro ad lsR H locs hP hL hT hol q1 q2 q3 q4
                      exact hEN ad lsR H locs pc .return_ hP (fun w hw => nomatch hw) hd ⟨rfl, by rw [p_rt_eq f1] at hc; exact Option.isNone_iff_eq_none.mp hc⟩ q1 q2
end Run
end
