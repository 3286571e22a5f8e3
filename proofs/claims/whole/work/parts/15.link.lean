/-! ===== calls: from a contract of the callee to the caller's step ===== -/
noncomputable section
def MC (inf : PInf) : Prop := plainName inf.1.cls = true ∧ inf.1.cls ≠ "java/lang/invoke/MethodHandle" ∧ inf.1.cls ≠ "java/lang/invoke/VarHandle" ∧ (parseMethodDescriptor inf.1.desc).map (fun d => d.parameters.length) = some inf.2.2.2.2.2.1 ∧ Cond.initialized inf.1.cls ∈ wsG ∧ wdM inf ∈ wsG ∧ inf.2.2.1 ≤ 41
def RK (rk : Nat) (C : String) : Prop := (rk = 6 ∧ C = "java/lang/String") ∨ ∃ ci T N, rk = 10 + ci ∧ vwCl[ci]? = some (C, T, N)
def LK (k : Nat) (own : String) (ix : Nat) (inf : PInf) (rk : Nat) : Prop :=
  (k = 0 ∧ Cond.methodLink own ix inf.1 ∈ wsG ∧ Cond.instanceMethod inf.1 ∈ wsG ∧ Cond.selects inf.1.cls inf.1 inf.1 ∈ wsG ∧ inf.2.2.2.2.2.2 = none ∧ RK rk inf.1.cls) ∨
  (k = 1 ∧ (Cond.methodLink own ix inf.1 ∈ wsG ∨ rk = 1) ∧ Cond.static inf.1 ∈ wsG ∧ inf.2.2.2.2.2.2 = none) ∨
  (k = 2 ∧ Cond.methodLink own ix inf.1 ∈ wsG ∧ Cond.static inf.1 ∈ wsG ∧ ∃ hh, inf.2.2.2.2.2.2 = some hh) ∨
  (k = 3 ∧ Cond.methodLink own ix inf.1 ∈ wsG ∧ Cond.instanceMethod inf.1 ∈ wsG ∧ inf.1.name = "<init>" ∧ inf.2.2.2.1 = none ∧ inf.2.2.2.2.2.2 = none ∧ RK rk inf.1.cls) ∨
  (k = 4 ∧ Cond.instanceMethod inf.1 ∈ wsG ∧ inf.1.name = "<init>" ∧ inf.2.2.2.1 = none ∧ inf.2.2.2.2.2.2 = none ∧ RK rk inf.1.cls)
/-- what the tables say of calls, by program -/
def TM : Prop :=
  (∀ oi own ix k a b rk, pl_at pm_own oi = some own → pm_mth oi ix = some (k, a, b, rk) → k ≤ 4 → ∃ inf, pm_inf (a, b) = some inf ∧ MC inf ∧ LK k own ix inf rk) ∧
  (∀ oi own ix a b rk, pl_at pm_own oi = some own → pm_mth oi ix = some (5, a, b, rk) → Cond.methodLink own ix objectInit ∈ wsG) ∧ Cond.instanceMethod objectInit ∈ wsG ∧ Cond.code objectInit ⟨#[0xb1]⟩ 1 none ∈ wsG ∧
  (∀ oi own ix a b rk, pl_at pm_own oi = some own → pm_mth oi ix = some (6, a, b, rk) → Cond.methodLink own ix arraycopyName ∈ wsG) ∧ Cond.native arraycopyName ∈ wsG ∧ Cond.static arraycopyName ∈ wsG ∧ Cond.initialized "java/lang/System" ∈ wsG ∧
  ((∀ oi own ix a b rk, pl_at pm_own oi = some own → pm_mth oi ix = some (8, a, b, rk) → Cond.methodLink own ix Lib.Math.max.name ∈ wsG) ∧ (∀ oi own ix a b rk, pl_at pm_own oi = some own → pm_mth oi ix = some (9, a, b, rk) → Cond.methodLink own ix Lib.Math.min.name ∈ wsG) ∧ Cond.initialized "java/lang/Math" ∈ wsG ∧
    Cond.static Lib.Math.max.name ∈ wsG ∧ Cond.code Lib.Math.max.name Lib.Math.max.code 2 (some .int) ∈ wsG ∧ Cond.static Lib.Math.min.name ∈ wsG ∧ Cond.code Lib.Math.min.name Lib.Math.min.code 2 (some .int) ∈ wsG)
theorem rmD_l {d mc ms : Nat} : (rmD d mc ms).locals = 60 * d + 300 := rfl
theorem rmD_f {d mc ms : Nat} : (rmD d mc ms).frames = d + 12 := rfl
theorem good_M {inf : PInf} (hc : MC inf) : GoodIn wsG (wsM inf) := by
  intro w hw
  have : w ∈ wsG := by
    rcases List.mem_cons.mp hw with z | z
    · rw [z]; exact hc.2.2.2.2.2.1
    · exact z
  exact ⟨this, good_of_word (wsG_good this)⟩
theorem good_app {a b : List Cond} (ha : ∀ w ∈ a, w ∈ wsG) (hb : GoodIn wsG b) : GoodIn wsG (a ++ b) := by
  intro w hw
  rcases List.mem_append.mp hw with z | z
  · exact ⟨ha w z, good_of_word (wsG_good (ha w z))⟩
  · exact hb w z
section Links
variable {p : Program} {l : Launch} {e : Env} {R : Room} {s s0 : State} {m : MethodId} {args : Array Value} {below : List Frame} {meth : Method} {c : Code} {Q : State → Prop}
variable {X : RX} {D : va_G} {cA : Nat → ClassId} {base nL c0 k0 cF kF : Nat}
theorem rcv_of {rk n a : Nat} {C : String} {ad : Nat → Nat} {h : PM} {H : Heap} {locs : List Loc} (hSX : SX X D cA base s0 s) (hP : PI X D cA base ad h s H locs) (hrk : RK rk C) (hv : okV h (vR (some (rk, n, a)))) : rk ≠ 8 ∧ ∃ cellB : Cell, H[ad a]? = some cellB ∧ cellB.vm.isStatics = false ∧ s.vm.findClass C = some cellB.cls := by
  obtain ⟨r1, r2, r3, r4⟩ := hv rk n a rfl
  rcases hrk with ⟨rfl, rfl⟩ | ⟨ci, T, N, rfl, hC⟩
  · refine ⟨by decide, ?_⟩
    have ha31 : a < 31 := by
      rcases Nat.lt_or_ge a 31 with z | z
      · exact z
      · exact absurd ⟨by omega, by omega⟩ (r4.mp z)
    obtain ⟨e1, e2, e3, e4⟩ := hP.2.2.2.2 a ha31
    have hO := hSX.2.2.2.2.2.2.2.2.2.2.1 a ha31 (by rw [← e4.1]; exact r2)
    obtain ⟨cell, x1, x2, x3, -⟩ := hO.kept hP.2.2.1.2.1
    rw [e1]
    exact ⟨cell, x1, x2, x3⟩
  · have hci : ci < 13 := (List.getElem?_eq_some_iff.mp hC).1
    refine ⟨by omega, ?_⟩
    have ha31 : 31 ≤ a := by
      apply r4.mpr
      intro z
      omega
    have hg := wd_get (cA := cA) (ad := ad) ha31 r1
    rw [cel_obj r2] at hg
    exact va_recv hSX.2.1 hP.1 hC hg
theorem pre0 {ad : Nat → Nat} {h : PM} {H : Heap} {locs : List Loc} {av : List PV} {a : List Value} (hSX : SX X D cA base s0 s) (hP : PI X D cA base ad h s H locs) (hT : okT h av) (ha : a = av.map (tv ad)) : ∀ U : State, U.heap = H → s.WarmedH U.vm → Pc0 X D cA base s0 ad h av a.toArray U := by
  intro U hU hW
  refine ⟨by rw [ha], ?_, by rw [hU]; exact hP.1, hP.2.1, hP.2.2.2.1, hP.2.2.2.2, hT⟩
  have hS := hP.2.2.1
  rw [← hU] at hS
  exact hSX.warm hW hS
/-- what a call needs, whatever its kind -/
theorem call_virtual {mi : Nat × Nat} {inf0 inf : PInf} {own : String} {pc ix rk n0 b0 mc ms d' : Nat} {av' : List PV} {st : List PV} {h : PM} {ad : Nat → Nat} {lsR : Array Slot} {H : Heap} {locs : List Loc} {Qc : Array Value → State → Outcome → State → Prop} {cells slots : Nat}
    (hFX : FX p s m args meth c mi inf0 own) (hSX : SX X D cA base s0 s) (hMC : MC inf) (hl : Cond.methodLink own ix inf.1 ∈ wsG) (hi : Cond.instanceMethod inf.1 ∈ wsG) (hsl : Cond.selects inf.1.cls inf.1 inf.1 ∈ wsG) (hh : inf.2.2.2.2.2.2 = none) (hrk : RK rk inf.1.cls) (hRf : d' + 13 ≤ R.frames) (hRl : 60 * (d' + 1) + 300 ≤ R.locals)
    (hP : PI X D cA base ad h s H locs) (hL : lsR.size = nL) (hnL : nL = inf0.2.2.1) (hT : okT h (vR (some (rk, n0, b0)) :: av')) (hlen : av'.length = inf.2.2.2.2.2.1) (hroom : p_room st = true) (hd : decode inf0.2.1 pc = .ok (.invokevirtual ix, 3)) (hf : cells + mc ≤ R.cells ∧ slots + ms ≤ R.slots)
    (hM : Met l inf.1 (wsM inf) (rmD d' mc ms) (Pc0 X D cA base s0 ad h (vR (some (rk, n0, b0)) :: av')) Qc mc ms (AB base)) :
    va_Run p l e R s m args below meth c H locs cells slots mc ms (F0 m pc lsR ((av'.map (tv ad)).reverse ++ tv ad (vR (some (rk, n0, b0))) :: st.map (tv ad))) (st.map (tv ad)) (Qc ((vR (some (rk, n0, b0)) :: av').map (tv ad)).toArray) (AB base) := by
  obtain ⟨f1, f2, hx, hb, hml, hr, hown, hts, hlk, hnm, htab⟩ := hFX
  obtain ⟨m1, m2, m3, m4, m5, m6, m7⟩ := hMC
  obtain ⟨h8, hrec⟩ := rcv_of hSX hP hrk hT.head
  have htv : tv ad (vR (some (rk, n0, b0))) = .ref (ad b0) := tv_ref h8
  have hws : wsM inf = Cond.code inf.1 inf.2.1 inf.2.2.1 inf.2.2.2.1 :: wsG := by unfold wsM wdM; rw [hh]
  have hcw : CallW R s args own inf.1.cls ix inf.1 inf.2.1 inf.2.2.1 inf.2.2.2.1 (wsM inf) (rmD d' mc ms) mc ms inf.2.2.2.2.2.1 :=
    cwV _ hts (good_app (fun w hw => by
      simp only [List.mem_cons, List.not_mem_nil, or_false] at hw
      rcases hw with z | z | z | z
      · rw [z]; exact hl
      · rw [z]; exact hi
      · rw [z]; exact hsl
      · rw [z]; exact m5) (good_M ⟨m1, m2, m3, m4, m5, m6, m7⟩)) hws rfl rfl ⟨rfl, m2, m3, m4⟩ ⟨by have h9 : (rmD d' mc ms).frames = d' + 12 := rmD_f; omega, by have h9 : (rmD d' mc ms).locals = 60 * d' + 300 := rmD_l; omega⟩
  rw [htv]
  have hp : PreV s H inf.1.cls (ad b0) (Pc0 X D cA base s0 ad h (vR (some (rk, n0, b0)) :: av')) (av'.map (tv ad)) := ⟨Pc0.blind, hrec, pre0 hSX hP hT (by rw [List.map_cons, htv])⟩
  have hrun := va_runV (l := l) (e := e) (below := below) (locs := locs) (cells := cells) (slots := slots) (As := av'.map (tv ad)) (rest := st.map (tv ad)) (g := F0 m pc lsR ((av'.map (tv ad)).reverse ++ .ref (ad b0) :: st.map (tv ad))) (meth := meth) ⟨hx, hb, hml, hown, hts⟩ hM hcw hp rfl (by rw [List.length_map]; exact hlen) (by show lsR.size = _; rw [hL, hnL]) rfl (lv_room (p_room_sum hroom)) hd hf
  rw [List.map_cons, htv]
  exact hrun
theorem call_virtualX {mi : Nat × Nat} {inf0 inf : PInf} {own : String} {pc ix rk n0 b0 mc ms d' : Nat} {av' : List PV} {st : List PV} {h : PM} {ad : Nat → Nat} {lsR : Array Slot} {H : Heap} {locs : List Loc} {Qc : Array Value → State → Outcome → State → Prop} {XC : String → State → State → Prop} {cells slots : Nat}
    (hFX : FX p s m args meth c mi inf0 own) (hSX : SX X D cA base s0 s) (hMC : MC inf) (hl : Cond.methodLink own ix inf.1 ∈ wsG) (hi : Cond.instanceMethod inf.1 ∈ wsG) (hsl : Cond.selects inf.1.cls inf.1 inf.1 ∈ wsG) (hh : inf.2.2.2.2.2.2 = none) (hrk : RK rk inf.1.cls) (hRf : d' + 13 ≤ R.frames) (hRl : 60 * (d' + 1) + 300 ≤ R.locals)
    (hP : PI X D cA base ad h s H locs) (hL : lsR.size = nL) (hnL : nL = inf0.2.2.1) (hT : okT h (vR (some (rk, n0, b0)) :: av')) (hlen : av'.length = inf.2.2.2.2.2.1) (hroom : p_room st = true) (hd : decode inf0.2.1 pc = .ok (.invokevirtual ix, 3)) (hf : cells + mc ≤ R.cells ∧ slots + ms ≤ R.slots)
    (hM : vx_Met l inf.1 (wsM inf) (rmD d' mc ms) (Pc0 X D cA base s0 ad h (vR (some (rk, n0, b0)) :: av')) Qc XC mc ms (AB base)) :
    vx_Run p l e R s m args below meth c H locs cells slots mc ms (F0 m pc lsR ((av'.map (tv ad)).reverse ++ tv ad (vR (some (rk, n0, b0))) :: st.map (tv ad))) (st.map (tv ad)) (Qc ((vR (some (rk, n0, b0)) :: av').map (tv ad)).toArray) XC (AB base) := by
  obtain ⟨f1, f2, hx, hb, hml, hr, hown, hts, hlk, hnm, htab⟩ := hFX
  obtain ⟨m1, m2, m3, m4, m5, m6, m7⟩ := hMC
  obtain ⟨h8, hrec⟩ := rcv_of hSX hP hrk hT.head
  have htv : tv ad (vR (some (rk, n0, b0))) = .ref (ad b0) := tv_ref h8
  have hws : wsM inf = Cond.code inf.1 inf.2.1 inf.2.2.1 inf.2.2.2.1 :: wsG := by unfold wsM wdM; rw [hh]
  have hcw : CallW R s args own inf.1.cls ix inf.1 inf.2.1 inf.2.2.1 inf.2.2.2.1 (wsM inf) (rmD d' mc ms) mc ms inf.2.2.2.2.2.1 :=
    cwV _ hts (good_app (fun w hw => by
      simp only [List.mem_cons, List.not_mem_nil, or_false] at hw
      rcases hw with z | z | z | z
      · rw [z]; exact hl
      · rw [z]; exact hi
      · rw [z]; exact hsl
      · rw [z]; exact m5) (good_M ⟨m1, m2, m3, m4, m5, m6, m7⟩)) hws rfl rfl ⟨rfl, m2, m3, m4⟩ ⟨by have h9 : (rmD d' mc ms).frames = d' + 12 := rmD_f; omega, by have h9 : (rmD d' mc ms).locals = 60 * d' + 300 := rmD_l; omega⟩
  rw [htv]
  have hp : PreV s H inf.1.cls (ad b0) (Pc0 X D cA base s0 ad h (vR (some (rk, n0, b0)) :: av')) (av'.map (tv ad)) := ⟨Pc0.blind, hrec, pre0 hSX hP hT (by rw [List.map_cons, htv])⟩
  have hrun := vx_runV (l := l) (e := e) (below := below) (locs := locs) (cells := cells) (slots := slots) (As := av'.map (tv ad)) (rest := st.map (tv ad)) (g := F0 m pc lsR ((av'.map (tv ad)).reverse ++ .ref (ad b0) :: st.map (tv ad))) (meth := meth) ⟨hx, hb, hml, hown, hts⟩ hM hcw hp rfl (by rw [List.length_map]; exact hlen) (by show lsR.size = _; rw [hL, hnL]) rfl (lv_room (p_room_sum hroom)) hd hf
  rw [List.map_cons, htv]
  exact hrun
theorem call_static {mi : Nat × Nat} {inf0 inf : PInf} {own : String} {pc ix mc ms d' : Nat} {av : List PV} {st : List PV} {h : PM} {ad : Nat → Nat} {lsR : Array Slot} {H : Heap} {locs : List Loc} {Qc : Array Value → State → Outcome → State → Prop} {cells slots : Nat}
    (hFX : FX p s m args meth c mi inf0 own) (hSX : SX X D cA base s0 s) (hMC : MC inf) (hl : Cond.methodLink own ix inf.1 ∈ wsG ∨ (inf.2.2.2.2.2.2 = none ∧ ∃ host, va_Nw (.methodLinkNest own ix inf.1 host) s)) (hi : Cond.static inf.1 ∈ wsG) (hRf : d' + 13 ≤ R.frames) (hRl : 60 * (d' + 1) + 300 ≤ R.locals)
    (hP : PI X D cA base ad h s H locs) (hL : lsR.size = nL) (hnL : nL = inf0.2.2.1) (hT : okT h av) (hlen : av.length = inf.2.2.2.2.2.1) (hroom : p_room st = true) (hd : decode inf0.2.1 pc = .ok (.invokestatic ix, 3)) (hf : cells + mc ≤ R.cells ∧ slots + ms ≤ R.slots)
    (hM : Met l inf.1 (wsM inf) (rmD d' mc ms) (Pc0 X D cA base s0 ad h av) Qc mc ms (AB base)) :
    va_Run p l e R s m args below meth c H locs cells slots mc ms (F0 m pc lsR ((av.map (tv ad)).reverse ++ st.map (tv ad))) (st.map (tv ad)) (Qc (av.map (tv ad)).toArray) (AB base) := by
  obtain ⟨f1, f2, hx, hb, hml, hr, hown, hts, hlk, hnm, htab⟩ := hFX
  obtain ⟨m1, m2, m3, m4, m5, m6, m7⟩ := hMC
  have hp : PreS s H (Pc0 X D cA base s0 ad h av) (av.map (tv ad)) := ⟨Pc0.blind, pre0 hSX hP hT rfl⟩
  have hR : (rmD d' mc ms).frames + 1 ≤ R.frames ∧ 8 + (inf.2.2.1 + 11) + (rmD d' mc ms).locals ≤ R.locals := ⟨by have h9 : (rmD d' mc ms).frames = d' + 12 := rmD_f; omega, by have h9 : (rmD d' mc ms).locals = 60 * d' + 300 := rmD_l; omega⟩
  rcases hl with hl | ⟨hh, host, hl⟩
  · have hgood : GoodIn wsG (va_wsS own ix inf.1 (wsM inf)) := good_app (fun w hw => by
        simp only [List.mem_cons, List.not_mem_nil, or_false] at hw
        rcases hw with z | z | z
        · rw [z]; exact hl
        · rw [z]; exact hi
        · rw [z]; exact m5) (good_M ⟨m1, m2, m3, m4, m5, m6, m7⟩)
    cases hh : inf.2.2.2.2.2.2 with
    | none =>
      have hws : wsM inf = Cond.code inf.1 inf.2.1 inf.2.2.1 inf.2.2.2.1 :: wsG := by unfold wsM wdM; rw [hh]
      have hcw := va_cwS (R := R) inf.2.2.2.2.2.1 hts hgood hws (rm := rmD d' mc ms) (mc := mc) (ms := ms) rfl rfl ⟨m2, m3, m4⟩ hR
      exact va_runS (l := l) (e := e) (below := below) (locs := locs) (cells := cells) (slots := slots) (As := av.map (tv ad)) (rest := st.map (tv ad)) (g := F0 m pc lsR ((av.map (tv ad)).reverse ++ st.map (tv ad))) (meth := meth) ⟨hx, hb, hml, hown, hts⟩ hM hcw hp rfl (by rw [List.length_map]; exact hlen) (by show lsR.size = _; rw [hL, hnL]) rfl (lv_room (p_room_sum hroom)) hd hf
    | some hd9 =>
      have hws : wsM inf = Cond.codeWith inf.1 inf.2.1 inf.2.2.1 inf.2.2.2.1 hd9 :: wsG := by unfold wsM wdM; rw [hh]
      have hcw := vx_cwSW (R := R) inf.2.2.2.2.2.1 hts hgood hws (rm := rmD d' mc ms) (mc := mc) (ms := ms) rfl rfl ⟨m2, m3, m4⟩ hR
      exact vx_runSW (l := l) (e := e) (below := below) (locs := locs) (cells := cells) (slots := slots) (As := av.map (tv ad)) (rest := st.map (tv ad)) (g := F0 m pc lsR ((av.map (tv ad)).reverse ++ st.map (tv ad))) (meth := meth) ⟨hx, hb, hml, hown, hts⟩ hM hcw hp rfl (by rw [List.length_map]; exact hlen) (by show lsR.size = _; rw [hL, hnL]) rfl (lv_room (p_room_sum hroom)) hd hf
  · have hws : wsM inf = Cond.code inf.1 inf.2.1 inf.2.2.1 inf.2.2.2.1 :: wsG := by unfold wsM wdM; rw [hh]
    exact va_runSN (l := l) (e := e) (below := below) (locs := locs) (cells := cells) (slots := slots) (As := av.map (tv ad)) (rest := st.map (tv ad)) (g := F0 m pc lsR ((av.map (tv ad)).reverse ++ st.map (tv ad))) (meth := meth) ⟨hx, hb, hml, hown, hts⟩ hM ⟨va_cnB inf.2.2.2.2.2.1 hts (good_M ⟨m1, m2, m3, m4, m5, m6, m7⟩) hws rfl rfl hl (hts _ m5) ⟨m2, m3, m4⟩ hR, hts _ hi, trivial⟩ hp rfl (by rw [List.length_map]; exact hlen) (by show lsR.size = _; rw [hL, hnL]) rfl (lv_room (p_room_sum hroom)) hd hf
theorem call_init {mi : Nat × Nat} {inf0 inf : PInf} {own : String} {pc ix rk n0 b0 mc ms d' : Nat} {av' : List PV} {st : List PV} {h : PM} {ad : Nat → Nat} {lsR : Array Slot} {H : Heap} {locs : List Loc} {Qc : Array Value → State → Outcome → State → Prop} {cells slots : Nat}
    (hFX : FX p s m args meth c mi inf0 own) (hSX : SX X D cA base s0 s) (hMC : MC inf) (hl : Cond.methodLink own ix inf.1 ∈ wsG ∨ ∃ host, va_Nw (.methodLinkNest own ix inf.1 host) s) (hi : Cond.instanceMethod inf.1 ∈ wsG) (hin : inf.1.name = "<init>") (hret : inf.2.2.2.1 = none) (hh : inf.2.2.2.2.2.2 = none) (hrk : RK rk inf.1.cls) (hRf : d' + 13 ≤ R.frames) (hRl : 60 * (d' + 1) + 300 ≤ R.locals)
    (hP : PI X D cA base ad h s H locs) (hL : lsR.size = nL) (hnL : nL = inf0.2.2.1) (hT : okT h (vR (some (rk, n0, b0)) :: av')) (hlen : av'.length = inf.2.2.2.2.2.1) (hroom : p_room st = true) (hd : decode inf0.2.1 pc = .ok (.invokespecial ix, 3)) (hf : cells + mc ≤ R.cells ∧ slots + ms ≤ R.slots)
    (hM : Met l inf.1 (wsM inf) (rmD d' mc ms) (Pc0 X D cA base s0 ad h (vR (some (rk, n0, b0)) :: av')) Qc mc ms (AB base)) :
    va_Run p l e R s m args below meth c H locs cells slots mc ms (F0 m pc lsR ((av'.map (tv ad)).reverse ++ tv ad (vR (some (rk, n0, b0))) :: st.map (tv ad))) (st.map (tv ad)) (Qc ((vR (some (rk, n0, b0)) :: av').map (tv ad)).toArray) (AB base) := by
  obtain ⟨f1, f2, hx, hb, hml, hr, hown, hts, hlk, hnm, htab⟩ := hFX
  have hMC0 := hMC
  obtain ⟨m1, m2, m3, m4, m5, m6, m7⟩ := hMC
  obtain ⟨h8, -⟩ := rcv_of hSX hP hrk hT.head
  have htv : tv ad (vR (some (rk, n0, b0))) = .ref (ad b0) := tv_ref h8
  have hws : wsM inf = Cond.code inf.1 inf.2.1 inf.2.2.1 none :: wsG := by unfold wsM wdM; rw [hh, hret]
  have hp : PreS s H (Pc0 X D cA base s0 ad h (vR (some (rk, n0, b0)) :: av')) (.ref (ad b0) :: av'.map (tv ad)) := ⟨Pc0.blind, pre0 hSX hP hT (by rw [List.map_cons, htv])⟩
  have hR : (rmD d' mc ms).frames + 1 ≤ R.frames ∧ 8 + (inf.2.2.1 + 11) + (rmD d' mc ms).locals ≤ R.locals := ⟨by have h9 : (rmD d' mc ms).frames = d' + 12 := rmD_f; omega, by have h9 : (rmD d' mc ms).locals = 60 * d' + 300 := rmD_l; omega⟩
  rw [htv, List.map_cons, htv]
  rcases hl with hl | ⟨host, hl⟩
  · exact va_runI (l := l) (e := e) (below := below) (locs := locs) (cells := cells) (slots := slots) (As := av'.map (tv ad)) (rest := st.map (tv ad)) (b := ad b0) (g := F0 m pc lsR ((av'.map (tv ad)).reverse ++ .ref (ad b0) :: st.map (tv ad))) (meth := meth) ⟨hx, hb, hml, hown, hts⟩ hM (cwI inf.2.2.2.2.2.1 hts (good_M hMC0) hws rfl rfl (hts _ m5) (hts _ hl) (hts _ hi) hin ⟨m2, m3, m4⟩ hR) hp rfl (by rw [List.length_map]; exact hlen) (by show lsR.size = _; rw [hL, hnL]) rfl (lv_room (p_room_sum hroom)) hd hf
  · exact va_runIN (l := l) (e := e) (below := below) (locs := locs) (cells := cells) (slots := slots) (As := av'.map (tv ad)) (rest := st.map (tv ad)) (b := ad b0) (g := F0 m pc lsR ((av'.map (tv ad)).reverse ++ .ref (ad b0) :: st.map (tv ad))) (meth := meth) ⟨hx, hb, hml, hown, hts⟩ hM ⟨va_cnB inf.2.2.2.2.2.1 hts (good_M hMC0) hws rfl rfl hl (hts _ m5) ⟨m2, m3, m4⟩ hR, hin, hts _ hi⟩ hp rfl (by rw [List.length_map]; exact hlen) (by show lsR.size = _; rw [hL, hnL]) rfl (lv_room (p_room_sum hroom)) hd hf
end Links
end
