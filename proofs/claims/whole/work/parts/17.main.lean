noncomputable section
section Run
variable {l : Launch}
theorem covers_iff {x : ExceptionTableEntry} {pc : Nat} : covers x pc = true ↔ (x.startPc ≤ pc ∧ pc < x.endPc) := by
  unfold covers
  simp
theorem not_covers {x : ExceptionTableEntry} {pc : Nat} (h : ¬ (x.startPc ≤ pc ∧ pc < x.endPc)) : covers x pc = false := by
  cases hc : covers x pc with
  | false => rfl
  | true => exact absurd (covers_iff.mp hc) h
theorem reti_narrow {ty : Option FieldType} {x : Int} (hx : cnI x) (h : p_reti ty x = true) : ∃ t, ty = some t ∧ narrow t (.int (p_I x)) = .int (p_I x) := by
  match ty, h with
  | some .int, _ => exact ⟨.int, rfl, rfl⟩
  | some .boolean, h =>
    have h : (decide (x = 0) || decide (x = 1)) = true := h
    simp only [Bool.or_eq_true, decide_eq_true_eq] at h
    rcases h with rfl | rfl
    · exact ⟨.boolean, rfl, nf_z0.1⟩
    · exact ⟨.boolean, rfl, nf_z1.1⟩
  | some .byte, h =>
    have h : p_i2b x = x := of_decide_eq_true h
    refine ⟨.byte, rfl, ?_⟩
    have : p_I x = (p_I x).toInt8.toInt32 := by
      have h2 : p_I (p_i2b x) = p_I x := by rw [h]
      unfold p_i2b at h2
      rw [p_I_toInt] at h2
      exact h2.symm
    rw [this]
    exact pk_nb _
  | some .char, h =>
    have h : p_i2c x = x := of_decide_eq_true h
    refine ⟨.char, rfl, ?_⟩
    have : p_I x = ((p_I x).toUInt32 % 65536).toInt32 := by
      have h2 : p_I (p_i2c x) = p_I x := by rw [h]
      unfold p_i2c at h2
      rw [p_I_toInt] at h2
      exact h2.symm
    rw [this]
    exact pk_nc _
/-- the same facts, seen from a method's own start: where its cells lie is kept -/
def XA (X : RX) (ad : Nat → Nat) (h : PM) : RX := (ad, X.2.1, X.2.2.1, fun i => if i = 31 then (m_sz h, 0) else X.2.2.2 i)
theorem XA_sh {X : RX} {ad : Nat → Nat} {h : PM} {i : Nat} (hi : i < 31) : (XA X ad h).2.2.2 i = X.2.2.2 i := by
  show (if i = 31 then (m_sz h, 0) else X.2.2.2 i) = _
  rw [if_neg (by omega)]
theorem roS.re {X : RX} {h : PM} {ad : Nat → Nat} (hr : roS X h ad) : roS (XA X ad h) h ad := by
  intro i hi
  obtain ⟨e1, e2, e3, e4, -⟩ := hr i hi
  exact ⟨rfl, e2, e3, e4.trans (XA_sh hi).symm, Nat.le_refl _, fun j _ => rfl⟩
theorem roS.back {X : RX} {h hF : PM} {ad ad' : Nat → Nat} (hr : roS (XA X ad h) hF ad') (h0 : roS X h ad) : roS X hF ad' ∧ ∀ j, j < m_sz h → ad' j = ad j := by
  have hlk : ∀ j, j < m_sz h → ad' j = ad j := (hr 0 (by decide)).2.2.2.2.2
  refine ⟨fun i hi => ?_, hlk⟩
  obtain ⟨e1, e2, e3, e4, e5, e6⟩ := hr i hi
  obtain ⟨f1, f2, f3, f4, f5, f6⟩ := h0 i hi
  refine ⟨e1.trans f1, e2, e3, e4.trans (XA_sh hi), Nat.le_trans f5 e5, fun j hj => ?_⟩
  rw [hlk j (Nat.lt_of_lt_of_le hj f5)]
  exact f6 j hj
theorem SX.re {X : RX} {D : va_G} {cA : Nat → ClassId} {base : Nat} {s0 s : State} {ad : Nat → Nat} {h : PM} (hS : SX X D cA base s0 s) (hr : roS X h ad) : SX (XA X ad h) D cA base s0 s := by
  obtain ⟨s1, hK, hSt, hRo, hao1, hao2, hz1, hz2, hcst, hgst, t1, t2, t3, t4⟩ := hS
  have ha : ∀ i, i < 31 → (XA X ad h).1 i = X.1 i := fun i hi => (hr i hi).1
  refine ⟨s1, hK, ?_, ?_, hao1, hao2, hz1, hz2, ?_, ?_, ?_, t2, t3, t4⟩
  · intro a h31 hk ad' had
    rw [XA_sh h31] at hk
    rw [ha a h31]
    exact hSt a h31 hk ad' (fun i hi => (had i hi).trans (ha i hi))
  · intro a h31
    rw [XA_sh h31, ha a h31]
    exact hRo a h31
  · intro oi own ix v ho hv
    rcases hcst oi own ix v ho hv with x1 | ⟨n, a, tx, x1, x2, x3, x4⟩
    · exact Or.inl x1
    · exact Or.inr ⟨n, a, tx, x1, x2, by rw [XA_sh x2]; exact x3, by rw [ha a x2]; exact x4⟩
  · intro oi own ix v ho hv
    obtain ⟨C, n, d, x1, x2, x3⟩ := hgst oi own ix v ho hv
    refine ⟨C, n, d, fun ad' had => x1 ad' (fun i hi => (had i hi).trans (ha i hi)), x2, ?_⟩
    rcases x3 with x3 | ⟨kd, n', a, y1, y2, y3, y4⟩
    · exact Or.inl x3
    · exact Or.inr ⟨kd, n', a, y1, y2, by rw [XA_sh y2]; exact y3, y4⟩
  · intro a h31 hk
    rw [XA_sh h31] at hk
    rw [ha a h31]
    exact t1 a h31 hk
/-- a method that returns ends as its contract says -/
theorem EN_ret {p : Program} {e : Env} {R : Room} {s : State} {m : MethodId} {args : Array Value} {below : List Frame} {meth : Method} {c : Code} {X : RX} {D : va_G} {cA : Nat → ClassId} {base : Nat} {mi : Nat × Nat} {inf : PInf} {own : String} {ad : Nat → Nat} {h hF : PM} {v : Option PV}
    (hFX : FX p s m args meth c mi inf own) (hro : roS X h ad) : EN l p e R s m args below meth c (MQ below (Qc0 X D cA base ad h v hF) args s (m_ce hF - m_ce h) (m_sl hF - m_sl h) (AB base)) (XA X ad h) D cA base (m_ce h) (m_sl h) mi inf (.inl v) hF := by
  obtain ⟨f1, f2, hx, hb, hml, hr, hown, hts, hlk, hnm, htab⟩ := hFX
  intro ad' lsR H locs pc i hP hov hd hrt h1 h2
  have hbk := hP.2.2.2.2.back hro
  have hQ : ∀ t : State, t.heap = H → s.WarmedH t.vm → Qc0 X D cA base ad h v hF args s (.returned (v.map (tv ad'))) t := fun t ht _ =>
    ⟨ad', hbk.2, rfl, by rw [ht]; exact hP.1, hP.2.1, hP.2.2.2.1, hbk.1, hov, hP.2.2.1.F ht⟩
  match v, hrt, hQ, hov with
  | none, hrt, hQ, hov =>
    obtain ⟨rfl, hty⟩ := hrt
    exact W.vret hx hb (hr.trans hty) hQ hP.2.2.1.2.2 hd hlk
  | some (.inl x), hrt, hQ, hov =>
    obtain ⟨rfl, hty⟩ := hrt
    obtain ⟨t, ht, hn⟩ := reti_narrow (hov _ rfl) hty
    exact W.zret (v := p_I x) hx hb (hr.trans ht) hn hQ hP.2.2.1.2.2 hd hlk
  | some (.inr (.inl x)), hrt, hQ, hov =>
    obtain ⟨rfl, hty⟩ := hrt
    have ht : inf.2.2.2.1 = some .long := by
      unfold p_retl at hty
      split at hty
      · assumption
      · cases hty
    exact W.lret (v := p_L x) hx hb (hr.trans ht) hQ hP.2.2.1.2.2 hd hlk
  | some (.inr (.inr r)), hrt, hQ, hov =>
    obtain ⟨rfl, hty⟩ := hrt
    have ht : ∃ t, inf.2.2.2.1 = some t ∧ ((∃ n, t = .object n) ∨ ∃ u, t = .array u) := by
      unfold p_retr at hty
      split at hty
      · rename_i n hq; exact ⟨_, hq, Or.inl ⟨n, rfl⟩⟩
      · rename_i n hq; exact ⟨_, hq, Or.inr ⟨n, rfl⟩⟩
      · cases hty
    obtain ⟨t, ht1, ht2⟩ := ht
    exact W.aret (v := tv ad' (vR r)) hx hb (hr.trans ht1) ht2 (tv_nr ad' r) hQ hP.2.2.1.2.2 hd hlk
theorem wd_exc {cA : Nat → ClassId} {ad : Nat → Nat} {h : PM} : wd cA ad (m_exc h) = wd cA ad h := wd_ext rfl (fun i _ _ => ⟨rfl, cel_same rfl rfl rfl⟩)
theorem EN_thr {p : Program} {e : Env} {R : Room} {s s0 : State} {m : MethodId} {args : Array Value} {below : List Frame} {meth : Method} {c : Code} {X : RX} {D : va_G} {cA : Nat → ClassId} {base ex : Nat} {mi : Nat × Nat} {inf : PInf} {own : String} {ad : Nat → Nat} {h hF : PM} (hTX : TX) (hl : l.stackTraces = false)
    (hFX : FX p s m args meth c mi inf own) (hSX : SX X D cA base s0 s) (hro : roS X h ad) (he : m_ext h hF) (hRf : 12 ≤ R.frames) (hRl : 300 ≤ R.locals) (hRc : m_ce hF - m_ce h ≤ R.cells) (hRs : m_sl hF - m_sl h ≤ R.slots) :
    EN l p e R s m args below meth c (vx_MQ below (fun _ _ _ _ => False) (XC0 X D cA base ad h ex hF) args s (m_ce hF - m_ce h) (m_sl hF - m_sl h) (AB base)) (XA X ad h) D cA base (m_ce h) (m_sl h) mi inf (.inr ex) hF := by
  obtain ⟨f1, f2, hx, hb, hml, hr, hown, hts, hlk, hnm, htab⟩ := hFX
  refine ⟨?_, ?_⟩
  · intro h9 ad' lsR H locs pc ik ic x y z st hFe hP hsz d0 d3 d4 d7 hn hm hroom hnt h1 h2
    subst hFe
    obtain ⟨E, names, g1, g2, g3, g4, g5, g6, g7, g8⟩ := hTX.1 mi.1 own ik ex x ic y z f2 hn hm
    have hbk := hP.2.2.2.2.back hro
    have hcast := hSX.2.2.2.2.2.2.2.2.2.2.2.2.1 ex E g1
    have hrs := p_room_sum (ad := ad') hroom
    have hce : m_ce (m_exc h9) = m_ce h9 + 1 := rfl
    have hsl : m_sl (m_exc h9) = m_sl h9 + 6 := rfl
    refine vx_throw0 (own := own) (cls := E) (names := names) (ik := ik) (ic := ic) (A := AB base) hx hb hl hown g2 g3 (hts _ g5) (hts _ g6) (fun w hw => ?_) g8 hSX.2.2.2.2.2.2.1 hSX.2.2.2.2.2.2.2.1 hP.2.2.1 (by rw [hml]; exact hsz) d0 d3 d4 d7 (fun q hq => ?_) (by omega) (by omega) (by omega) (by omega) hlk (fun t hvm ht1 ht2 => ?_) hP.2.2.1.2.2 (by omega) (by omega)
    · rcases g7 w hw with z9 | z9 | ⟨Y9, y9, z9⟩
      · exact hts _ z9
      · rw [z9]; exact va_Nw.use rfl hcast.1
      · rw [z9]; exact va_Nw.use rfl (hcast.2 Y9 y9)
    · rw [htab, hnt] at hq; cases hq
    · refine ⟨g1, ad', hbk.2, ?_, ?_, ?_, ?_, ?_⟩
      · rw [wd_exc]
        exact hP.1.kept (fun k q hk => ht2 q.1 (hP.1 k q hk).lt)
      · rw [wd_exc]; exact hP.2.1
      · exact hP.2.2.2.1
      · exact hbk.1
      · refine ⟨Nat.le_trans hP.2.2.1.1 ht1, fun q hq1 hq2 => ?_⟩
        rw [ht2 q (Nat.lt_of_lt_of_le hq1 hP.2.2.1.1)]
        exact hP.2.2.1.2.1 q hq1 hq2
  · intro ad' lsR H locs pc rest q ce E hP hE hce hcv hcl hnt h1 h2
    have hbk := hP.2.2.2.2.back hro
    refine vx_out (fun z hz => by rw [htab, hnt] at hz; cases hz) hlk hce hcv hcl (fun t ht hvm => ?_) hP.2.2.1.2.2 (Nat.le_refl _) (Nat.le_refl _)
    exact ⟨hE, ad', hbk.2, by rw [ht]; exact hP.1, hP.2.1, hP.2.2.2.1, hbk.1, hP.2.2.1.F ht⟩
theorem hws_code {inf : PInf} (hh : inf.2.2.2.2.2.2 = none) : wsM inf = Cond.code inf.1 inf.2.1 inf.2.2.1 inf.2.2.2.1 :: wsG := by unfold wsM wdM; rw [hh]
theorem hws_with {inf : PInf} {hd : List (Nat × Nat × Nat × Nat)} (hh : inf.2.2.2.2.2.2 = some hd) : wsM inf = Cond.codeWith inf.1 inf.2.1 inf.2.2.1 inf.2.2.2.1 hd :: wsG := by unfold wsM wdM; rw [hh]
/-- what is known in a body -/
theorem fx_body {p : Program} {e : Env} {s s₁ : State} {m : MethodId} {args : Array Value} {below : List Frame} {meth : Method} {c : Code} {mj : Nat × Nat} {inf : PInf} {rm : Room} (hTX : TX) (hinf : pm_inf mj = some inf) (B : BodyLoose p l inf.1 (headSpec (wsM inf) rm) inf.2.1 inf.2.2.1 inf.2.2.2.1 e s m args below meth c s₁) (hml : c.maxLocals = inf.2.2.1) : FX p s m args meth c mj inf inf.1.cls := by
  have hts := atoms_spec (ws := wsM inf) B.pre
  refine ⟨hinf, hTX.2.2.2 mj inf hinf, B.exec, B.bytes, hml, B.returns, findClass_of_methodNamed B.named, fun w hw => hts w (List.mem_cons_of_mem _ hw), B.notSynchronized, (name_of_methodNamed B.named B.method).1, ?_⟩
  cases hh : inf.2.2.2.2.2.2 with
  | none =>
    obtain ⟨meth9, c9, h1, h2, -, -, -, -, h7, -⟩ := Cond.code_spec B.named (hts (Cond.code inf.1 inf.2.1 inf.2.2.1 inf.2.2.2.1) (by rw [hws_code hh]; exact List.mem_cons_self))
    cases Option.some.inj (h1.symm.trans B.method)
    cases Option.some.inj (h2.symm.trans (Stand.of_body B).code)
    rw [Array.isEmpty_iff.mp h7]
  | some hd =>
    exact vx_table (x := inf.1) B (hts (Cond.codeWith inf.1 inf.2.1 inf.2.2.1 inf.2.2.2.1 hd) (by rw [hws_with hh]; exact List.mem_cons_self))
theorem ct_of_frm (hTX : TX) (hl : l.stackTraces = false) {n : Nat} (hF : FRM l n) : CT l n := by
  intro d mj av ls0 h o h' inf hinf hent hrun hMC X D cA base s0 ad
  have hext := run_ext _ _ _ _ _ _ hrun
  have hext : m_ext h h' := hext
  cases o with
  | inl v =>
    have key : ∀ p e s m args below meth c s₁, BodyLoose p l inf.1 (headSpec (wsM inf) (rmD d (m_ce h' - m_ce h) (m_sl h' - m_sl h))) inf.2.1 inf.2.2.1 inf.2.2.2.1 e s m args below meth c s₁ → c.maxLocals = inf.2.2.1 → Pc0 X D cA base s0 ad h av args s →
        W p l e (headSpec (wsM inf) (rmD d (m_ce h' - m_ce h) (m_sl h' - m_sl h))).room s m args below meth c s.heap [] 0 0 (MQ below (Qc0 X D cA base ad h v h') args s (m_ce h' - m_ce h) (m_sl h' - m_sl h) (AB base)) (entryFrame m args inf.2.2.1) := by
      intro p e s m args below meth c s₁ B hml hv
      have hFX := fx_body hTX hinf B hml
      obtain ⟨rfl, hSX, hP, hD, hok, hro, hT⟩ := hv
      rw [lg_entry_eq]
      obtain ⟨hLR, hoL⟩ := entry_LR (ad := ad) hent hT
      have g := hF d mj (0, ls0, [], h) (.inl v) h' hrun p e (headSpec (wsM inf) (rmD d (m_ce h' - m_ce h) (m_sl h' - m_sl h))).room s s0 m _ below meth c _ (XA X ad h) D cA base (m_ce h) (m_sl h) inf inf.1.cls hFX (hSX.re hro) (Nat.le_refl _) (Nat.le_refl _) (Nat.le_refl _) (Nat.le_refl _) (EN_ret hFX hro)
        ad _ s.heap [] ⟨hP, hD, va_S.rf, hok, hro.re⟩ hLR (fun w hw => nomatch hw) hoL (Nat.le_refl _) (Nat.le_refl _) hext.2.2.1 hext.2.2.2
      have g : W p l e _ s m _ below meth c s.heap [] (m_ce h - m_ce h) (m_sl h - m_sl h) _ _ := g
      rw [Nat.sub_self, Nat.sub_self] at g
      exact g
    cases hh : inf.2.2.2.2.2.2 with
    | none => exact Met.ofW (cc := inf.2.1) (maxL := inf.2.2.1) (ret := inf.2.2.2.1) hMC.1 (hws_code hh) key
    | some hd => exact va_MetW (cc := inf.2.1) (maxL := inf.2.2.1) (ret := inf.2.2.2.1) hMC.1 (hws_with hh) key
  | inr ex =>
    have key : ∀ p e s m args below meth c s₁, BodyLoose p l inf.1 (headSpec (wsM inf) (rmD d (m_ce h' - m_ce h) (m_sl h' - m_sl h))) inf.2.1 inf.2.2.1 inf.2.2.2.1 e s m args below meth c s₁ → c.maxLocals = inf.2.2.1 → Pc0 X D cA base s0 ad h av args s →
        W p l e (headSpec (wsM inf) (rmD d (m_ce h' - m_ce h) (m_sl h' - m_sl h))).room s m args below meth c s.heap [] 0 0 (vx_MQ below (fun _ _ _ _ => False) (XC0 X D cA base ad h ex h') args s (m_ce h' - m_ce h) (m_sl h' - m_sl h) (AB base)) (entryFrame m args inf.2.2.1) := by
      intro p e s m args below meth c s₁ B hml hv
      have hFX := fx_body hTX hinf B hml
      obtain ⟨rfl, hSX, hP, hD, hok, hro, hT⟩ := hv
      rw [lg_entry_eq]
      obtain ⟨hLR, hoL⟩ := entry_LR (ad := ad) hent hT
      have g := hF d mj (0, ls0, [], h) (.inr ex) h' hrun p e (headSpec (wsM inf) (rmD d (m_ce h' - m_ce h) (m_sl h' - m_sl h))).room s s0 m _ below meth c _ (XA X ad h) D cA base (m_ce h) (m_sl h) inf inf.1.cls hFX (hSX.re hro) (Nat.le_refl _) (Nat.le_refl _) (Nat.le_refl _) (Nat.le_refl _)
        (EN_thr hTX hl hFX hSX hro hext (by show 12 ≤ d + 12; omega) (by show 300 ≤ 60 * d + 300; omega) (Nat.le_refl _) (Nat.le_refl _))
        ad _ s.heap [] ⟨hP, hD, va_S.rf, hok, hro.re⟩ hLR (fun w hw => nomatch hw) hoL (Nat.le_refl _) (Nat.le_refl _) hext.2.2.1 hext.2.2.2
      have g : W p l e _ s m _ below meth c s.heap [] (m_ce h - m_ce h) (m_sl h - m_sl h) _ _ := g
      rw [Nat.sub_self, Nat.sub_self] at g
      exact g
    cases hh : inf.2.2.2.2.2.2 with
    | none => exact vx_ofW (cc := inf.2.1) (maxL := inf.2.2.1) (ret := inf.2.2.2.1) hMC.1 (hws_code hh) (fun p e s m args below meth c s₁ B hml _ hv => key p e s m args below meth c s₁ B hml hv)
    | some hd => exact vx_ofWH (cc := inf.2.1) (maxL := inf.2.2.1) (ret := inf.2.2.2.1) hMC.1 (hws_with hh) key
end Run
end
