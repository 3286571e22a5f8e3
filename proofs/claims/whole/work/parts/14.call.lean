/-! ===== calls ===== -/
noncomputable section
def rmD (d mc ms : Nat) : Room := { frames := d + 12, cells := mc, slots := ms, locals := 60 * d + 300 }
def wsM (inf : PInf) : List Cond := wdM inf :: wsG
def Pc0 (X : RX) (D : va_G) (cA : Nat → ClassId) (base : Nat) (s0 : State) (ad : Nat → Nat) (h : PM) (av : List PV) : Array Value → State → Prop := fun a U =>
  a = (av.map (tv ad)).toArray ∧ SX X D cA base s0 U ∧ va_P D vwCl (wd cA ad h) U.heap ∧ va_D (AB base) (wd cA ad h) ∧ okH h ∧ roS X h ad ∧ okT h av
def Qc0 (X : RX) (D : va_G) (cA : Nat → ClassId) (base : Nat) (ad : Nat → Nat) (h : PM) (v : Option PV) (h' : PM) : Array Value → State → Outcome → State → Prop := fun _ st oc t =>
  ∃ ad' : Nat → Nat, (∀ i, i < m_sz h → ad' i = ad i) ∧ oc = .returned (v.map (tv ad')) ∧ va_P D vwCl (wd cA ad' h') t.heap ∧ va_D (AB base) (wd cA ad' h') ∧ okH h' ∧ roS X h' ad' ∧ (∀ w, v = some w → okV h' w) ∧ va_F (AB base) st t
def XC0 (X : RX) (D : va_G) (cA : Nat → ClassId) (base : Nat) (ad : Nat → Nat) (h : PM) (ex : Nat) (h' : PM) : String → State → State → Prop := fun E st t =>
  pl_at pm_exs ex = some E ∧ ∃ ad' : Nat → Nat, (∀ i, i < m_sz h → ad' i = ad i) ∧ va_P D vwCl (wd cA ad' h') t.heap ∧ va_D (AB base) (wd cA ad' h') ∧ okH h' ∧ roS X h' ad' ∧ va_F (AB base) st t
theorem Pc0.blind {X : RX} {D : va_G} {cA : Nat → ClassId} {base : Nat} {s0 : State} {ad : Nat → Nat} {h : PM} {av : List PV} : FrameBlind (Pc0 X D cA base s0 ad h av) := by
  intro a U g mk hp
  obtain ⟨e1, e2, e3, e4, e5, e6, e7⟩ := hp
  exact ⟨e1, e2.same rfl rfl, e3, e4, e5, e6, e7⟩
theorem tv_ext {ad ad' : Nat → Nat} {h : PM} {v : PV} (hv : okV h v) (e : ∀ i, i < m_sz h → ad' i = ad i) : tv ad' v = tv ad v := by
  rcases v with y | y | r
  · rfl
  · rfl
  · cases r with
    | none => rfl
    | some z =>
      obtain ⟨kd, n, a⟩ := z
      obtain ⟨q1, -⟩ := hv kd n a rfl
      show (if kd = 8 then (match ad' a with
        | 0 => Value.null
        | q + 1 => .ref q) else .ref (ad' a)) = _
      rw [e a q1]
      rfl
theorem pop_spec : ∀ (n : Nat) (acc st av st' : List PV), p_pop n acc st = some (av, st') → ∃ w, w.length = n ∧ st = w ++ st' ∧ av = w.reverse ++ acc := by
  intro n
  induction n with
  | zero =>
    intro acc st av st' h
    cases Option.some.inj h
    exact ⟨[], rfl, rfl, rfl⟩
  | succ n ih =>
    intro acc st av st' h
    cases st with
    | nil => cases h
    | cons v st =>
      obtain ⟨w, h1, h2, h3⟩ := ih (v :: acc) st av st' h
      refine ⟨v :: w, by rw [List.length_cons, h1], by rw [h2]; rfl, ?_⟩
      rw [h3, List.reverse_cons, List.append_assoc]
      rfl
section Calls
variable {p : Program} {l : Launch} {e : Env} {R : Room} {s s0 : State} {m : MethodId} {args : Array Value} {below : List Frame} {meth : Method} {c : Code} {Q : State → Prop}
variable {X : RX} {D : va_G} {cA : Nat → ClassId} {base nL c0 k0 cF kF : Nat}
theorem back_S {H : Heap} {locs L : List Loc} {st₀ t T' : State} (hS : va_S (AB base) s.heap H locs) (h0 : st₀.heap = H) (e1 : T'.heap = t.heap) (hL : ∀ q ∈ L, AB base q.base) (hF : va_F (AB base) st₀ t) : va_S (AB base) s.heap T'.heap (locs ++ L) := by
  obtain ⟨hz, hk⟩ := hF
  rw [h0] at hz hk
  refine ⟨Nat.le_trans hS.1 (by rw [e1]; exact hz), fun q h1 h2 => ?_, fun q hq => ?_⟩
  · rw [e1, hk q (Nat.lt_of_lt_of_le h1 hS.1) h2]; exact hS.2.1 q h1 h2
  · rcases List.mem_append.mp hq with h | h
    · exact hS.2.2 q h
    · exact hL q h
/-- a call that returns -/
theorem call_ret {pc : Nat} {ls : PLs} {st : List PV} {h h1 : PM} {v : Option PV} {a : Array Value} {stk : List Value} {ad : Nat → Nat} {lsR : Array Slot} {H : Heap} {locs : List Loc} (he : m_ext h h1)
    (hr : va_Run p l e R s m args below meth c H locs (m_ce h - c0) (m_sl h - k0) (m_ce h1 - m_ce h) (m_sl h1 - m_sl h) (F0 m pc lsR stk) (st.map (tv ad)) (Qc0 X D cA base ad h v h1 a) (AB base))
    (K : GG p l e R s m args below meth c Q X D cA base nL c0 k0 cF kF (pc + 3, ls, v.toList ++ st, h1)) (hP : PI X D cA base ad h s H locs) (hL : LR ad ls lsR nL) (hT : okT h st) (hl : okL h ls) (q1 : c0 ≤ m_ce h) (q2 : k0 ≤ m_sl h) (q3 : m_ce h1 ≤ cF) (q4 : m_sl h1 ≤ kF) :
    W p l e R s m args below meth c H locs (m_ce h - c0) (m_sl h - k0) Q (F0 m pc lsR stk) := by
  intro T hT0 X0
  obtain ⟨vv, st₀, t, T', L, h0, X', hLL, e1, e2, hq, stp⟩ := hr T hT0 X0
  obtain ⟨ad', hx, hv, g1, g2, g3, g4, g5, g6⟩ := hq
  have hvv : vv = v.map (tv ad') := Outcome.returned.inj hv
  have hPI : PI X D cA base ad' h1 s T'.heap (locs ++ L) := ⟨by rw [e1]; exact g1, g2, back_S hP.2.2.1 h0 e1 hLL g6, g3, g4⟩
  have hst : st.map (tv ad') = st.map (tv ad) := List.map_congr_left (fun w hw => tv_ext (hT w hw) hx)
  have hke := K ad' lsR T'.heap (locs ++ L) hPI (hL.keep (fun w hw => tv_ext (hl w hw) hx)) (fun w hw => by
    rcases List.mem_append.mp hw with z | z
    · cases v with
      | none => cases z
      | some y =>
        have : w = y := by simpa using z
        rw [this]; exact g5 y rfl
    · exact (hT w z).ext he) (fun w hw => (hl w hw).ext he) (by have := he.2.2.1; show c0 ≤ m_ce h1; omega) (by have := he.2.2.2; show k0 ≤ m_sl h1; omega) q3 q4
  have hke : W p l e R s m args below meth c T'.heap (locs ++ L) (m_ce h1 - c0) (m_sl h1 - k0) Q (F0 m (pc + 3) lsR ((v.toList ++ st).map (tv ad'))) := hke
  have hce : (m_ce h - c0) + (m_ce h1 - m_ce h) = m_ce h1 - c0 := by have := he.2.2.1; omega
  have hsl : (m_sl h - k0) + (m_sl h1 - m_sl h) = m_sl h1 - k0 := by have := he.2.2.2; omega
  rw [hce, hsl] at X'
  obtain ⟨t2, a1, b1⟩ := hke T' rfl X'
  refine ⟨t2, stp t2 ?_, b1⟩
  have hfr : (F0 m (pc + 3) lsR ((v.toList ++ st).map (tv ad'))) = { F0 m pc lsR stk with pc := (F0 m pc lsR stk).pc + 3, stack := vv.toList ++ st.map (tv ad) } := by
    rw [hvv, List.map_append, hst]
    cases v <;> rfl
  rw [← hfr]
  exact a1
/-- a call that throws -/
theorem call_thr {pc ex : Nat} {ls : PLs} {st : List PV} {h h1 : PM} {a : Array Value} {stk : List Value} {ad : Nat → Nat} {lsR : Array Slot} {H : Heap} {locs : List Loc} (he : m_ext h h1)
    (hr : vx_Run p l e R s m args below meth c H locs (m_ce h - c0) (m_sl h - k0) (m_ce h1 - m_ce h) (m_sl h1 - m_sl h) (F0 m pc lsR stk) (st.map (tv ad)) (fun _ _ _ => False) (XC0 X D cA base ad h ex h1) (AB base))
    (K : ∀ (ad' : Nat → Nat) (H1 : Heap) (locs1 : List Loc) (q : Addr) (ce : Cell) (E : String), PI X D cA base ad' h1 s H1 locs1 → (∀ i, i < m_sz h → ad' i = ad i) → pl_at pm_exs ex = some E → H1[q]? = some ce → ce.vm = .none → s.vm.findClass E = some ce.cls → vx_W p l e R s m args below meth c H1 locs1 (m_ce h1 - c0) (m_sl h1 - k0) Q (F0 m pc lsR (st.map (tv ad))) q)
    (hP : PI X D cA base ad h s H locs) (q1 : c0 ≤ m_ce h) (q2 : k0 ≤ m_sl h) :
    W p l e R s m args below meth c H locs (m_ce h - c0) (m_sl h - k0) Q (F0 m pc lsR stk) := by
  intro T hT0 X0
  rcases hr T hT0 X0 with ⟨v, st₀, t, T', L, h0, X', hL, e1, e2, hf, stp⟩ | ⟨q, st₀, t, T', L, E, ce, h0, X', hLL, e1, e2, ⟨hE, ad', hx, g1, g2, g3, g4, g6⟩, hce, hcv, hcl, stp⟩
  · exact hf.elim
  · have hPI : PI X D cA base ad' h1 s T'.heap (locs ++ L) := ⟨by rw [e1]; exact g1, g2, back_S hP.2.2.1 h0 e1 hLL g6, g3, g4⟩
    have hc9 : (m_ce h - c0) + (m_ce h1 - m_ce h) = m_ce h1 - c0 := by have := he.2.2.1; omega
    have hs9 : (m_sl h - k0) + (m_sl h1 - m_sl h) = m_sl h1 - k0 := by have := he.2.2.2; omega
    rw [hc9, hs9] at X'
    obtain ⟨t2, a1, b1⟩ := K ad' T'.heap (locs ++ L) q ce E hPI hx hE (by rw [e1]; exact hce) hcv hcl T' rfl X'
    exact ⟨t2, stp.trans a1, b1⟩
end Calls
end
