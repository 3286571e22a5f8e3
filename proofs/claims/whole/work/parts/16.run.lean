/-! ===== a run of the pure machine is a run of the machine ===== -/
noncomputable section
/-- what the tables say of exceptions, by program -/
def TX : Prop :=
  (∀ oi own ik ex x ic y z, pl_at pm_own oi = some own → pm_newc oi ik = some (1, ex, x) → pm_mth oi ic = some (7, ex, y, z) → ∃ E names, pl_at pm_exs ex = some E ∧ Bundle.fit E = true ∧ (∀ n ∈ names, Bundle.fit n = true) ∧ names.length ≤ 4 ∧ Cond.classLink own ik E ∈ wsG ∧ Cond.initialized E ∈ wsG ∧
    (∀ w ∈ vx_at0 own ic E names, w ∈ wsG ∨ w = .castable E E ∨ ∃ Y ∈ xsup, w = .declares (Bundle.init0 Y)) ∧ (∀ w ∈ Cond.classLink own ik E :: Cond.initialized E :: vx_at0 own ic E names, vx_ot w = true)) ∧
  (∀ oi own ct ex, pl_at pm_own oi = some own → (pl_at pm_xcs oi).bind (fun l => pl_find l ct) = some ex → ct ≠ 0 ∧ ∃ E, pl_at pm_exs ex = some E ∧ Cond.classLink own ct E ∈ wsG) ∧
  (∀ mi inf hh, pm_inf mi = some inf → inf.2.2.2.2.2.2 = some hh → ∀ q ∈ hh, ∃ ex, (pl_at pm_xcs mi.1).bind (fun l => pl_find l q.2.2.2) = some ex) ∧
  (∀ mi inf, pm_inf mi = some inf → pl_at pm_own mi.1 = some inf.1.cls)
/-- which instruction gives a value back -/
def rtOK (i : Instr) (ty : Option FieldType) (v : Option PV) : Prop := match v with
  | none => i = .return_ ∧ ty = none
  | some (.inl x) => i = .ireturn ∧ p_reti ty x = true
  | some (.inr (.inl _)) => i = .lreturn ∧ p_retl ty = true
  | some (.inr (.inr _)) => i = .areturn ∧ p_retr ty = true
section Run
variable (l : Launch)
/-- the ends of a method -/
def EN (p : Program) (e : Env) (R : Room) (s : State) (m : MethodId) (args : Array Value) (below : List Frame) (meth : Method) (c : Code) (Q : State → Prop) (X : RX) (D : va_G) (cA : Nat → ClassId) (base c0 k0 : Nat) (mi : Nat × Nat) (inf : PInf) (o : PO) (hF : PM) : Prop := match o with
  | .inl v => ∀ (ad : Nat → Nat) (lsR : Array Slot) (H : Heap) (locs : List Loc) (pc : Nat) (i : Instr), PI X D cA base ad hF s H locs → (∀ w, v = some w → okV hF w) → decode inf.2.1 pc = .ok (i, 1) → rtOK i inf.2.2.2.1 v → c0 ≤ m_ce hF → k0 ≤ m_sl hF →
      W p l e R s m args below meth c H locs (m_ce hF - c0) (m_sl hF - k0) Q (F0 m pc lsR (v.toList.map (tv ad)))
  | .inr ex => (∀ (h : PM) (ad : Nat → Nat) (lsR : Array Slot) (H : Heap) (locs : List Loc) (pc ik ic x y z : Nat) (st : List PV), hF = m_exc h → PI X D cA base ad h s H locs → lsR.size = inf.2.2.1 → decode inf.2.1 pc = .ok (.new ik, 3) → decode inf.2.1 (pc + 3) = .ok (.dup, 1) → decode inf.2.1 (pc + 4) = .ok (.invokespecial ic, 3) → decode inf.2.1 (pc + 7) = .ok (.athrow, 1) →
        pm_newc mi.1 ik = some (1, ex, x) → pm_mth mi.1 ic = some (7, ex, y, z) → p_room st = true → inf.2.2.2.2.2.2 = none → c0 ≤ m_ce h → k0 ≤ m_sl h → W p l e R s m args below meth c H locs (m_ce h - c0) (m_sl h - k0) Q (F0 m pc lsR (st.map (tv ad)))) ∧
      (∀ (ad : Nat → Nat) (lsR : Array Slot) (H : Heap) (locs : List Loc) (pc : Nat) (rest : List Value) (q : Addr) (ce : Cell) (E : String), PI X D cA base ad hF s H locs → pl_at pm_exs ex = some E → H[q]? = some ce → ce.vm = .none → s.vm.findClass E = some ce.cls → inf.2.2.2.2.2.2 = none → c0 ≤ m_ce hF → k0 ≤ m_sl hF →
        vx_W p l e R s m args below meth c H locs (m_ce hF - c0) (m_sl hF - k0) Q (F0 m pc lsR rest) q)
/-- the statement for runs of at most n steps -/
def FRM (n : Nat) : Prop := ∀ (d : Nat) (mi : Nat × Nat) (cf : PCf) (o : PO) (hF : PM), pm_run n d mi cf = some (o, hF) →
  ∀ (p : Program) (e : Env) (R : Room) (s s0 : State) (m : MethodId) (args : Array Value) (below : List Frame) (meth : Method) (c : Code) (Q : State → Prop) (X : RX) (D : va_G) (cA : Nat → ClassId) (base c0 k0 : Nat) (inf : PInf) (own : String),
    FX p s m args meth c mi inf own → SX X D cA base s0 s → m_ce hF - c0 ≤ R.cells → m_sl hF - k0 ≤ R.slots → d + 12 ≤ R.frames → 60 * d + 300 ≤ R.locals → EN l p e R s m args below meth c Q X D cA base c0 k0 mi inf o hF →
    GG p l e R s m args below meth c Q X D cA base inf.2.2.1 c0 k0 (m_ce hF) (m_sl hF) cf
/-- a contract out of the frame's statement -/
def CT (n : Nat) : Prop := ∀ (d : Nat) (mj : Nat × Nat) (av : List PV) (ls0 : PLs) (h : PM) (o : PO) (h' : PM) (inf : PInf), pm_inf mj = some inf → p_entry av inf.2.2.1 = some ls0 → pm_run n d mj (0, ls0, [], h) = some (o, h') → MC inf →
  ∀ (X : RX) (D : va_G) (cA : Nat → ClassId) (base : Nat) (s0 : State) (ad : Nat → Nat),
    (match o with
    | .inl v => Met l inf.1 (wsM inf) (rmD d (m_ce h' - m_ce h) (m_sl h' - m_sl h)) (Pc0 X D cA base s0 ad h av) (Qc0 X D cA base ad h v h') (m_ce h' - m_ce h) (m_sl h' - m_sl h) (AB base)
    | .inr ex => vx_Met l inf.1 (wsM inf) (rmD d (m_ce h' - m_ce h) (m_sl h' - m_sl h)) (Pc0 X D cA base s0 ad h av) (fun _ _ _ _ => False) (XC0 X D cA base ad h ex h') (m_ce h' - m_ce h) (m_sl h' - m_sl h) (AB base))
end Run
theorem slots_len : ∀ (ad : Nat → Nat) (av : List PV), (lg_sl (av.map (tv ad))).length = (p_slots av).length := by
  intro ad av
  induction av with
  | nil => rfl
  | cons v t ih =>
    have hc : (tv ad v).category = p_cat v := tv_cat
    have h1 : lg_sl ((v :: t).map (tv ad)) = (if (tv ad v).category = 2 then [Slot.val (tv ad v), .second] else [Slot.val (tv ad v)]) ++ lg_sl (t.map (tv ad)) := by
      unfold lg_sl
      rw [List.map_cons, List.flatMap_cons]
    rw [h1, hc]
    rcases v with x | x | r
    · show ((if (1 : Nat) = 2 then _ else [Slot.val (tv ad (.inl x))]) ++ lg_sl (t.map (tv ad))).length = (some (Sum.inl x : PV) :: p_slots t).length
      rw [if_neg (by decide), List.length_append, ih, List.length_cons, List.length_cons, List.length_nil]
      omega
    · show ((if (2 : Nat) = 2 then [Slot.val (tv ad (.inr (.inl x))), .second] else _) ++ lg_sl (t.map (tv ad))).length = (some (Sum.inr (Sum.inl x) : PV) :: none :: p_slots t).length
      rw [if_pos rfl, List.length_append, ih]
      simp only [List.length_cons, List.length_nil]
      omega
    · show ((if (1 : Nat) = 2 then _ else [Slot.val (tv ad (.inr (.inr r)))]) ++ lg_sl (t.map (tv ad))).length = (some (Sum.inr (Sum.inr r) : PV) :: p_slots t).length
      rw [if_neg (by decide), List.length_append, ih, List.length_cons, List.length_cons, List.length_nil]
      omega
theorem args_mem {ad : Nat → Nat} : ∀ (av : List PV) (k i : Nat) (v : PV), (p_slots av)[i]? = some (some v) → (k + i, tv ad v) ∈ lv_args k (av.map (tv ad)) ∧ v ∈ av := by
  intro av
  induction av with
  | nil => intro k i v h; simp [p_slots] at h
  | cons w t ih =>
    intro k i v h
    have hc : (tv ad w).category = p_cat w := tv_cat
    show (k + i, tv ad v) ∈ (k, tv ad w) :: lv_args (if (tv ad w).category = 2 then k + 2 else k + 1) (t.map (tv ad)) ∧ _
    rw [hc]
    rcases w with x | x | r
    · have h : (some (Sum.inl x : PV) :: p_slots t)[i]? = some (some v) := h
      cases i with
      | zero =>
        have : (Sum.inl x : PV) = v := by simpa using h
        subst this
        exact ⟨List.mem_cons_self, List.mem_cons_self⟩
      | succ i =>
        rw [List.getElem?_cons_succ] at h
        obtain ⟨g1, g2⟩ := ih (k + 1) i v h
        refine ⟨List.mem_cons_of_mem _ ?_, List.mem_cons_of_mem _ g2⟩
        rw [show k + (i + 1) = k + 1 + i by omega]
        exact g1
    · have h : (some (Sum.inr (Sum.inl x) : PV) :: none :: p_slots t)[i]? = some (some v) := h
      match i, h with
      | 0, h =>
        have : (Sum.inr (Sum.inl x) : PV) = v := by simpa using h
        subst this
        exact ⟨List.mem_cons_self, List.mem_cons_self⟩
      | 1, h => simp at h
      | i + 2, h =>
        rw [List.getElem?_cons_succ, List.getElem?_cons_succ] at h
        obtain ⟨g1, g2⟩ := ih (k + 2) i v h
        refine ⟨List.mem_cons_of_mem _ ?_, List.mem_cons_of_mem _ g2⟩
        rw [show k + (i + 2) = k + 2 + i by omega]
        exact g1
    · have h : (some (Sum.inr (Sum.inr r) : PV) :: p_slots t)[i]? = some (some v) := h
      cases i with
      | zero =>
        have : (Sum.inr (Sum.inr r) : PV) = v := by simpa using h
        subst this
        exact ⟨List.mem_cons_self, List.mem_cons_self⟩
      | succ i =>
        rw [List.getElem?_cons_succ] at h
        obtain ⟨g1, g2⟩ := ih (k + 1) i v h
        refine ⟨List.mem_cons_of_mem _ ?_, List.mem_cons_of_mem _ g2⟩
        rw [show k + (i + 1) = k + 1 + i by omega]
        exact g1
theorem entry_LR {ad : Nat → Nat} {av : List PV} {n : Nat} {ls0 : PLs} {h : PM} (he : p_entry av n = some ls0) (hT : okT h av) :
    LR ad ls0 ((lg_sl (av.map (tv ad)) ++ List.replicate (n - (lg_sl (av.map (tv ad))).length) Slot.unset).toArray) n ∧ okL h ls0 := by
  unfold p_entry at he
  cases hb : Nat.ble (p_slots av).length n with
  | false => rw [hb] at he; cases he
  | true =>
    rw [hb] at he
    have he := Option.some.inj he
    have hle : (p_slots av).length ≤ n := Nat.le_of_ble_eq_true hb
    have hv := lv_entry (av.map (tv ad)) (n := n) (by rw [slots_len]; exact hle)
    have hmem : ∀ (i : Nat) (v : PV), ls0[i]? = some (some v) → (p_slots av)[i]? = some (some v) := by
      intro i v hi
      rw [← he] at hi
      by_cases hlt : i < (p_slots av).length
      · rw [List.getElem?_append_left hlt] at hi; exact hi
      · rw [List.getElem?_append_right (by omega)] at hi
        have := List.mem_of_getElem? hi
        rw [List.mem_replicate] at this
        exact absurd this.2 (by simp)
    refine ⟨⟨hv.1, hv.2.1, ?_, fun i v hi => ?_⟩, fun v hv9 => ?_⟩
    · rw [← he, List.length_append, List.length_replicate]; omega
    · have g := (args_mem (ad := ad) av 0 i v (hmem i v hi)).1
      rw [Nat.zero_add] at g
      exact hv.2.2 _ g
    · obtain ⟨i, hi⟩ := List.getElem?_of_mem hv9
      exact hT v (args_mem (ad := ad) av 0 i v (hmem i v hi)).2
theorem hnds_spec {oi pc ex t : Nat} : ∀ hh : List (Nat × Nat × Nat × Nat), p_hnds oi pc ex hh = some t → ∃ pre x suf, hh = pre ++ x :: suf ∧ x.2.2.1 = t ∧ (x.1 ≤ pc ∧ pc < x.2.1) ∧ (pl_at pm_xcs oi).bind (fun l => pl_find l x.2.2.2) = some ex ∧
    ∀ z ∈ pre, ¬ (z.1 ≤ pc ∧ pc < z.2.1) ∨ (pl_at pm_xcs oi).bind (fun l => pl_find l z.2.2.2) ≠ some ex := by
  intro hh
  induction hh with
  | nil => intro h; cases h
  | cons q l ih =>
    intro h
    obtain ⟨a, b, t', ct⟩ := q
    have h : (bif Nat.ble a pc && Nat.blt pc b && (match (pl_at pm_xcs oi).bind (fun l => pl_find l ct) with
      | some e' => Nat.beq ex e'
      | none => false) then some t' else p_hnds oi pc ex l) = some t := h
    cases hc : (Nat.ble a pc && Nat.blt pc b && (match (pl_at pm_xcs oi).bind (fun l => pl_find l ct) with
      | some e' => Nat.beq ex e'
      | none => false)) with
    | true =>
      rw [hc] at h
      have ht : t' = t := Option.some.inj h
      simp only [Bool.and_eq_true] at hc
      obtain ⟨⟨c1, c2⟩, c3⟩ := hc
      refine ⟨[], (a, b, t', ct), l, rfl, ht, ⟨Nat.le_of_ble_eq_true c1, Nat.le_of_ble_eq_true c2⟩, ?_, fun z hz => nomatch hz⟩
      cases hf : (pl_at pm_xcs oi).bind (fun l => pl_find l ct) with
      | none => rw [hf] at c3; cases c3
      | some e' =>
        rw [hf] at c3
        show some e' = some ex
        rw [beq_t c3]
    | false =>
      rw [hc] at h
      obtain ⟨pre, x, suf, h1, h2, h3, h4, h5⟩ := ih h
      refine ⟨(a, b, t', ct) :: pre, x, suf, by rw [h1]; rfl, h2, h3, h4, fun z hz => ?_⟩
      rcases List.mem_cons.mp hz with hz | hz
      · subst hz
        by_cases hcov : a ≤ pc ∧ pc < b
        · right
          intro hf
          have hf : (pl_at pm_xcs oi).bind (fun l => pl_find l ct) = some ex := hf
          have c1 : Nat.ble a pc = true := Nat.ble_eq_true_of_le hcov.1
          have c2 : Nat.blt pc b = true := Nat.ble_eq_true_of_le hcov.2
          have c3 : Nat.beq ex ex = true := Nat.beq_refl ex
          rw [c1, c2, hf] at hc
          simp only [c3] at hc
          cases hc
        · exact Or.inl hcov
      · exact h5 z hz
end
