noncomputable section
section Run
variable {l : Launch}
theorem hst_spec {t k n : Nat} {ls : PLs} {r : Option (Nat × PLs)} (h : p_hst t k n ls = some r) : ∃ ls', p_st ls k (vR none) = some ls' ∧ k < ls.length ∧ r = some (t + n, ls'.set k none) := by
  unfold p_hst at h
  cases hps : p_st ls k (vR none) with
  | none => rw [hps] at h; cases h
  | some ls' =>
    rw [hps] at h
    have h : (bif Nat.blt k ls.length then some (some (t + n, ls'.set k none)) else none) = some r := h
    cases hlt : Nat.blt k ls.length with
    | false => rw [hlt] at h; cases h
    | true =>
      rw [hlt] at h
      exact ⟨ls', rfl, Nat.le_of_ble_eq_true hlt, (Option.some.inj h).symm⟩
theorem hat_spec {mi : Nat × Nat} {t : Nat} {ls : PLs} {r : Option (Nat × PLs)} (h : p_hat mi t ls = some r) :
    (∃ k ls', pm_code mi t = some (.astore k, 2) ∧ p_st ls k (vR none) = some ls' ∧ k < ls.length ∧ r = some (t + 2, ls'.set k none)) ∨
    (∃ (k : Fin 4) (ls' : PLs), pm_code mi t = some (.astore_n k, 1) ∧ p_st ls k.val (vR none) = some ls' ∧ k.val < ls.length ∧ r = some (t + 1, ls'.set k.val none)) := by
  unfold p_hat at h
  split at h
  · rename_i k hco
    obtain ⟨ls', h1, h2, h3⟩ := hst_spec h
    exact Or.inl ⟨k, ls', hco, h1, h2, h3⟩
  · rename_i k hco
    obtain ⟨ls', h1, h2, h3⟩ := hst_spec h
    exact Or.inr ⟨k, ls', hco, h1, h2, h3⟩
  · cases h
/-- the exceptional end of a call: caught here, or it goes on -/
theorem thr_go {p : Program} {e : Env} {R : Room} {s s0 : State} {m : MethodId} {args : Array Value} {below : List Frame} {meth : Method} {c : Code} {Q : State → Prop} {X : RX} {D : va_G} {cA : Nat → ClassId} {base c0 k0 n d ex pc : Nat} {mi : Nat × Nat} {inf : PInf} {own : String} {ls : PLs} {st : List PV} {h h1 hF : PM} {o : PO} (hTB : TB) (hTX : TX) (ih : FRM l n)
    (hFX : FX p s m args meth c mi inf own) (hSX : SX X D cA base s0 s) (hRc : m_ce hF - c0 ≤ R.cells) (hRs : m_sl hF - k0 ≤ R.slots) (hRf : d + 12 ≤ R.frames) (hRl : 60 * d + 300 ≤ R.locals) (hEN : EN l p e R s m args below meth c Q X D cA base c0 k0 mi inf o hF)
    (hr : (match p_hnd mi pc ex ls with
      | some (some (pc', ls')) => pm_run n d mi (pc', ls', [], h1)
      | some none => some (.inr ex, h1)
      | none => none) = some (o, hF)) (he : m_ext h h1) (hF9 : m_ext h1 hF) (q1 : c0 ≤ m_ce h) (q2 : k0 ≤ m_sl h) {ad : Nat → Nat} {lsR : Array Slot} (hL : LR ad ls lsR inf.2.2.1) (hl : okL h ls) :
    ∀ (ad' : Nat → Nat) (H1 : Heap) (locs1 : List Loc) (q : Addr) (ce : Cell) (E : String), PI X D cA base ad' h1 s H1 locs1 → (∀ i, i < m_sz h → ad' i = ad i) → pl_at pm_exs ex = some E → H1[q]? = some ce → ce.vm = .none → s.vm.findClass E = some ce.cls → vx_W p l e R s m args below meth c H1 locs1 (m_ce h1 - c0) (m_sl h1 - k0) Q (F0 m pc lsR (st.map (tv ad))) q := by
  intro ad' H1 locs1 q ce E hP hlk hE hce hcv hcl
  have hvir : p_hnd mi pc ex ls = p_hnd0 mi pc ex ls := by
    unfold p_hnd
    cases hv : p_vir mi pc with
    | true => rfl
    | false =>
      have : p_hnd mi pc ex ls = none := by unfold p_hnd; rw [hv]; rfl
      rw [this] at hr
      cases hr
  rw [hvir] at hr
  obtain ⟨f1, f2, hx, hb, hml, hret, hown, hts, hlocks, hnm, htab⟩ := hFX
  have g1 : c0 ≤ m_ce h1 := by have := he.2.2.1; omega
  have g2 : k0 ≤ m_sl h1 := by have := he.2.2.2; omega
  cases hh : inf.2.2.2.2.2.2 with
  | none =>
    have hp : p_hnd0 mi pc ex ls = some none := by
      obtain ⟨y1, y2, y3, y4, y5, y6, y7⟩ := inf
      have hh : y7 = none := hh
      subst hh
      unfold p_hnd0
      rw [f1]
    rw [hp] at hr
    cases Option.some.inj hr
    exact hEN.2 ad' lsR H1 locs1 pc (st.map (tv ad)) q ce E hP hE hce hcv hcl hh g1 g2
  | some hd =>
    have hp : p_hnd0 mi pc ex ls = p_hnt mi pc ex ls hd := by
      obtain ⟨y1, y2, y3, y4, y5, y6, y7⟩ := inf
      have hh : y7 = some hd := hh
      subst hh
      unfold p_hnd0
      rw [f1]
    rw [hp] at hr
    unfold p_hnt at hr
    cases ht : p_hnds mi.1 pc ex hd with
    | none => rw [ht] at hr; cases hr
    | some t =>
      rw [ht] at hr
      obtain ⟨pre, x, suf, h1', h2', h3', h4', h5'⟩ := hnds_spec hd ht
      have hsplit : c.exceptionTable.toList = (tableOf pre) ++ (⟨x.1, x.2.1, x.2.2.1, x.2.2.2⟩ : ExceptionTableEntry) :: tableOf suf := by
        rw [htab, hh, h1']
        show tableOf (pre ++ x :: suf) = _
        unfold tableOf
        rw [List.map_append, List.map_cons]
      obtain ⟨w1, E9, w2, w3⟩ := hTX.2.1 mi.1 own x.2.2.2 ex f2 h4'
      cases Option.some.inj (w2.symm.trans hE)
      have hcatch : W p l e R s m args below meth c H1 locs1 (m_ce h1 - c0) (m_sl h1 - k0) Q (F0 m x.2.2.1 lsR [.ref q]) → vx_W p l e R s m args below meth c H1 locs1 (m_ce h1 - c0) (m_sl h1 - k0) Q (F0 m pc lsR (st.map (tv ad))) q := fun kk =>
        vx_catch (own := own) (name := E) (E := E) hown (tableOf pre) ⟨x.1, x.2.1, x.2.2.1, x.2.2.2⟩ (tableOf suf) hsplit (fun z hz => by
          unfold tableOf at hz
          obtain ⟨y, hy, rfl⟩ := List.mem_map.mp hz
          rcases h5' y hy with g | g
          · exact Or.inl (not_covers g)
          · right
            obtain ⟨ex9, hex9⟩ := hTX.2.2.1 mi inf hd f1 hh y (by rw [h1']; exact List.mem_append_left _ hy)
            obtain ⟨v1, E8, v2, v3⟩ := hTX.2.1 mi.1 own y.2.2.2 ex9 f2 hex9
            refine ⟨v1, E8, hts _ v3, ?_⟩
            exact hSX.2.2.2.2.2.2.2.2.2.2.2.2.2 ex ex9 E E8 (fun z9 => g (by rw [z9]; exact hex9)) hE v2) (covers_iff.mpr h3') w1 (hts _ w3) (va_Nw.use rfl (hSX.2.2.2.2.2.2.2.2.2.2.2.2.1 ex E hE).1) hce hcv hcl kk
      refine hcatch ?_
      rw [h2']
      have hLn : LR ad' ls lsR inf.2.2.1 := hL.keep (fun w hw => tv_ext (hl w hw) hlk)
      have hln : okL h1 ls := fun w hw => (hl w hw).ext he
      have fin : ∀ (k pc' : Nat) (ls' : PLs), p_st ls k (vR none) = some ls' → k < ls.length → pm_run n d mi (pc', ls'.set k none, [], h1) = some (o, hF) → ∀ lsR' : Array Slot, lv_has lsR' inf.2.2.1 ((k, Value.ref q) :: (lvl ad' ls).filter (fun q => !(q.1 == k) && !(q.1 + 1 == k && q.2.category == 2))) →
          W p l e R s m args below meth c H1 locs1 (m_ce h1 - c0) (m_sl h1 - k0) Q (F0 m pc' lsR' []) := by
        intro k pc' ls' hps hk hrun lsR' hhas
        obtain ⟨rfl, hno⟩ := p_st_spec hps
        have hLR : LR ad' ((ls.set k (some (vR none))).set k none) lsR' inf.2.2.1 := by
          refine ⟨hhas.1, hhas.2.1, by rw [List.length_set, List.length_set]; exact hLn.2.2.1, ?_⟩
          intro i w hi
          by_cases hik : i = k
          · subst hik
            rw [List.getElem?_set_self (by rw [List.length_set]; exact hk)] at hi
            cases Option.some.inj hi
          · rw [List.getElem?_set_ne (Ne.symm hik), List.getElem?_set_ne (Ne.symm hik)] at hi
            refine hhas.2.2 (i, tv ad' w) (List.mem_cons_of_mem _ (List.mem_filter.mpr ⟨mem_lvl.mpr ⟨w, hi, rfl⟩, ?_⟩))
            have b1 : (i == k) = false := by simp [hik]
            simp only [b1, Bool.not_false, Bool.true_and, Bool.not_eq_true', Bool.and_eq_false_iff]
            by_cases hj : i + 1 = k
            · right
              rw [tv_cat]
              rcases w with x9 | x9 | r9
              · rfl
              · exact absurd hi (hno i x9 hj)
              · rfl
            · left
              simp [hj]
        exact ih d mi _ o hF hrun p e R s s0 m args below meth c Q X D cA base c0 k0 inf own ⟨f1, f2, hx, hb, hml, hret, hown, hts, hlocks, hnm, htab⟩ hSX hRc hRs hRf hRl hEN ad' lsR' H1 locs1 hP hLR (fun w hw => nomatch hw) (by
          intro w hw
          have hw : some w ∈ (ls.set k (some (vR none))).set k none := hw
          rcases List.mem_or_eq_of_mem_set hw with z | z
          · rcases List.mem_or_eq_of_mem_set z with z | z
            · exact hln w z
            · cases z
              intro kd n9 a9 hq9
              cases hq9
          · cases z) g1 g2 hF9.2.2.1 hF9.2.2.2
      have hr : (match p_hat mi t ls with
        | some (some (pc', ls')) => pm_run n d mi (pc', ls', [], h1)
        | some none => some (.inr ex, h1)
        | none => none) = some (o, hF) := hr
      cases hq : p_hat mi t ls with
      | none => rw [hq] at hr; cases hr
      | some r9 =>
        rw [hq] at hr
        rcases hat_spec hq with ⟨k, ls9, hco, hps, hkl, rfl⟩ | ⟨k, ls9, hco, hps, hkl, rfl⟩
        · exact lv_astore hx hb (hTB.1 mi inf t _ 2 f1 hco) hLn.has (by have := hLn.2.2.1; omega) rfl (fun lsR' hhas => fin k _ _ hps hkl hr lsR' hhas)
        · exact lv_astore_n hx hb (hTB.1 mi inf t _ 1 f1 hco) rfl hLn.has (by have := hLn.2.2.1; omega) rfl (fun lsR' hhas => fin k.val _ _ hps hkl hr lsR' hhas)
end Run
end
