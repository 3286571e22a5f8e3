/-! ===== soundness of single steps: from a pure step to the machine's ===== -/
noncomputable section
abbrev RX : Type := (Nat → Nat) × (Nat → Nat → Int) × (Nat → Nat → Rf) × (Nat → Nat × Nat)
def AB (base : Nat) : Nat → Prop := fun q => base ≤ q
/-- cells of numbers below 31 are as they were at the law's start; those below the number that X keeps at 31 lie where X says -/
def roS (X : RX) (h : PM) (ad : Nat → Nat) : Prop := ∀ i, i < 31 → ad i = X.1 i ∧ h.1 i = X.2.1 i ∧ h.2.1 i = X.2.2.1 i ∧ h.2.2.1 i = X.2.2.2 i ∧ (X.2.2.2 31).1 ≤ m_sz h ∧ ∀ j, j < (X.2.2.2 31).1 → ad j = X.1 j
def okS (s0 : State) (base : Nat) (s : State) : Prop := s0.vm.Alike s.vm ∧ base ≤ s.heap.size ∧ ∀ q, q < base → s.heap[q]? = s0.heap[q]?
def PI (X : RX) (D : va_G) (cA : Nat → ClassId) (base : Nat) (ad : Nat → Nat) (h : PM) (s : State) (H : Heap) (locs : List Loc) : Prop :=
  va_P D vwCl (wd cA ad h) H ∧ va_D (AB base) (wd cA ad h) ∧ va_S (AB base) s.heap H locs ∧ okH h ∧ roS X h ad
def LR (ad : Nat → Nat) (ls : PLs) (lsR : Array Slot) (nL : Nat) : Prop := lsR.size = nL ∧ lv_wf lsR ∧ ls.length = nL ∧ ∀ (i : Nat) (v : PV), ls[i]? = some (some v) → lsR[i]? = some (Slot.val (tv ad v))
def lvl (ad : Nat → Nat) (ls : PLs) : List (Nat × Value) := (List.range ls.length).filterMap (fun i => (p_ld ls i).map (fun v => (i, tv ad v)))
theorem p_ld_some {ls : PLs} {k : Nat} {v : PV} : p_ld ls k = some v ↔ ls[k]? = some (some v) := by
  unfold p_ld
  cases hk : ls[k]? with
  | none => simp
  | some o => cases o <;> simp
theorem mem_lvl {ad : Nat → Nat} {ls : PLs} {i : Nat} {w : Value} : (i, w) ∈ lvl ad ls ↔ ∃ v, ls[i]? = some (some v) ∧ w = tv ad v := by
  unfold lvl
  rw [List.mem_filterMap]
  constructor
  · rintro ⟨k, hk, hv⟩
    cases hp : p_ld ls k with
    | none => rw [hp] at hv; cases hv
    | some v =>
      rw [hp] at hv
      have h1 : (k, tv ad v) = (i, w) := Option.some.inj hv
      cases h1
      exact ⟨v, p_ld_some.mp hp, rfl⟩
  · rintro ⟨v, hv, rfl⟩
    refine ⟨i, List.mem_range.mpr (List.getElem?_eq_some_iff.mp hv).1, ?_⟩
    rw [p_ld_some.mpr hv]
    rfl
theorem LR.has {ad : Nat → Nat} {ls : PLs} {lsR : Array Slot} {nL : Nat} (h : LR ad ls lsR nL) : lv_has lsR nL (lvl ad ls) := by
  refine ⟨h.1, h.2.1, ?_⟩
  rintro ⟨i, w⟩ hq
  obtain ⟨v, h1, rfl⟩ := mem_lvl.mp hq
  exact h.2.2.2 i v h1
theorem tv_cat {ad : Nat → Nat} {v : PV} : (tv ad v).category = p_cat v := by
  rcases v with x | x | r
  · rfl
  · rfl
  · cases r with
    | none => rfl
    | some q =>
      obtain ⟨kd, n, a⟩ := q
      unfold tv
      by_cases h8 : kd = 8
      · simp only [h8, if_true]
        cases ad a <;> rfl
      · simp only [h8, if_false]
        rfl
theorem p_st_spec {ls ls' : PLs} {k : Nat} {v : PV} (h : p_st ls k v = some ls') : ls' = ls.set k (some v) ∧ ∀ j x, j + 1 = k → ls[j]? ≠ some (some (vL x)) := by
  cases k with
  | zero => exact ⟨(Option.some.inj h).symm, fun j x hj => absurd hj (by omega)⟩
  | succ j =>
    have h : (bif p_isL ls[j]? then none else some (ls.set (j + 1) (some v))) = some ls' := h
    cases hb : p_isL ls[j]? with
    | true => rw [hb] at h; cases h
    | false =>
      rw [hb] at h
      refine ⟨(Option.some.inj h).symm, ?_⟩
      intro j' x hj hc
      have : j' = j := by omega
      subst this
      rw [hc] at hb
      cases hb
theorem LR.store {ad : Nat → Nat} {ls ls' : PLs} {lsR lsR' : Array Slot} {nL k : Nat} {v : PV} (h : LR ad ls lsR nL) (hp : p_st ls k v = some ls')
    (hh : lv_has lsR' nL ((k, tv ad v) :: (lvl ad ls).filter (fun q => !(q.1 == k) && !(q.1 + 1 == k && q.2.category == 2)))) : LR ad ls' lsR' nL := by
  obtain ⟨rfl, hno⟩ := p_st_spec hp
  refine ⟨hh.1, hh.2.1, by rw [List.length_set]; exact h.2.2.1, ?_⟩
  intro i w hi
  by_cases hik : i = k
  · subst hik
    have hl : i < ls.length := by
      have := (List.getElem?_eq_some_iff.mp hi).1
      rwa [List.length_set] at this
    rw [List.getElem?_set_self hl] at hi
    have hw : v = w := Option.some.inj (Option.some.inj hi)
    subst hw
    exact hh.2.2 (i, tv ad v) List.mem_cons_self
  · rw [List.getElem?_set_ne (Ne.symm hik)] at hi
    refine hh.2.2 (i, tv ad w) (List.mem_cons_of_mem _ (List.mem_filter.mpr ⟨mem_lvl.mpr ⟨w, hi, rfl⟩, ?_⟩))
    have h1 : (i == k) = false := by simp [hik]
    simp only [h1, Bool.not_false, Bool.true_and, Bool.not_eq_true', Bool.and_eq_false_iff]
    by_cases hj : i + 1 = k
    · right
      rw [tv_cat]
      rcases w with x | x | r
      · rfl
      · exact absurd hi (hno i x hj)
      · rfl
    · left
      simp [hj]
theorem LR.storeL {ad : Nat → Nat} {ls ls' : PLs} {lsR lsR' : Array Slot} {nL k : Nat} {x : Int} (h : LR ad ls lsR nL) (hp : p_st ls k (vL x) = some ls')
    (hh : lv_has lsR' nL ((k, tv ad (vL x)) :: (lvl ad ls).filter (fun q => !(q.1 == k) && (!(q.1 == k + 1) && !(q.1 + 1 == k && q.2.category == 2))))) : LR ad (ls'.set (k + 1) none) lsR' nL := by
  obtain ⟨rfl, hno⟩ := p_st_spec hp
  refine ⟨hh.1, hh.2.1, by rw [List.length_set, List.length_set]; exact h.2.2.1, ?_⟩
  intro i w hi
  have hl0 : i < ls.length := by
    have := (List.getElem?_eq_some_iff.mp hi).1
    rwa [List.length_set, List.length_set] at this
  by_cases hi1 : i = k + 1
  · subst hi1
    rw [List.getElem?_set_self (by rw [List.length_set]; exact hl0)] at hi
    cases Option.some.inj hi
  · rw [List.getElem?_set_ne (Ne.symm hi1)] at hi
    by_cases hik : i = k
    · subst hik
      rw [List.getElem?_set_self hl0] at hi
      have hw : vL x = w := Option.some.inj (Option.some.inj hi)
      subst hw
      exact hh.2.2 (i, tv ad (vL x)) List.mem_cons_self
    · rw [List.getElem?_set_ne (Ne.symm hik)] at hi
      refine hh.2.2 (i, tv ad w) (List.mem_cons_of_mem _ (List.mem_filter.mpr ⟨mem_lvl.mpr ⟨w, hi, rfl⟩, ?_⟩))
      have h1 : (i == k) = false := by simp [hik]
      have h2 : (i == k + 1) = false := by simp [hi1]
      simp only [h1, h2, Bool.not_false, Bool.true_and, Bool.not_eq_true', Bool.and_eq_false_iff]
      by_cases hj : i + 1 = k
      · right
        rw [tv_cat]
        rcases w with x' | x' | r
        · rfl
        · exact absurd hi (hno i x' hj)
        · rfl
      · left
        simp [hj]
theorem LR.dead {ad : Nat → Nat} {ls : PLs} {lsR : Array Slot} {nL : Nat} (h : LR ad ls lsR nL) (k : Nat) : LR ad (ls.set k none) lsR nL := by
  refine ⟨h.1, h.2.1, by rw [List.length_set]; exact h.2.2.1, ?_⟩
  intro i w hi
  by_cases hik : i = k
  · subst hik
    have hl : i < ls.length := by
      have := (List.getElem?_eq_some_iff.mp hi).1
      rwa [List.length_set] at this
    rw [List.getElem?_set_self hl] at hi
    cases Option.some.inj hi
  · rw [List.getElem?_set_ne (Ne.symm hik)] at hi
    exact h.2.2.2 i w hi
theorem LR.keep {ad ad' : Nat → Nat} {ls : PLs} {lsR : Array Slot} {nL : Nat} (h : LR ad ls lsR nL) (e : ∀ v, some v ∈ ls → tv ad' v = tv ad v) : LR ad' ls lsR nL :=
  ⟨h.1, h.2.1, h.2.2.1, fun i v hi => by rw [e v (List.mem_of_getElem? hi)]; exact h.2.2.2 i v hi⟩
/-- all that a frame holds is right -/
def okL (h : PM) (ls : PLs) : Prop := ∀ v, some v ∈ ls → okV h v
def okT (h : PM) (st : List PV) : Prop := ∀ v ∈ st, okV h v
theorem okL.set {h : PM} {ls : PLs} {v : PV} (hl : okL h ls) (hv : okV h v) (k : Nat) : okL h (ls.set k (some v)) := by
  intro w hw
  rcases List.mem_or_eq_of_mem_set hw with h1 | h1
  · exact hl w h1
  · cases h1; exact hv
theorem okL.setN {h : PM} {ls : PLs} (hl : okL h ls) (k : Nat) : okL h (ls.set k none) := by
  intro w hw
  rcases List.mem_or_eq_of_mem_set hw with h1 | h1
  · exact hl w h1
  · cases h1
theorem okT.cons {h : PM} {st : List PV} {v : PV} (hv : okV h v) (ht : okT h st) : okT h (v :: st) := by
  intro w hw
  rcases List.mem_cons.mp hw with h1 | h1
  · rw [h1]; exact hv
  · exact ht w h1
theorem okT.tail {h : PM} {st : List PV} {v : PV} (ht : okT h (v :: st)) : okT h st := fun w hw => ht w (List.mem_cons_of_mem _ hw)
theorem okT.head {h : PM} {st : List PV} {v : PV} (ht : okT h (v :: st)) : okV h v := ht v List.mem_cons_self
section Steps
variable {p : Program} {l : Launch} {e : Env} {R : Room} {s : State} {m : MethodId} {args : Array Value} {below : List Frame} {meth : Method} {c : Code} {Q : State → Prop}
variable {X : RX} {D : va_G} {cA : Nat → ClassId} {base nL c0 k0 cF kF : Nat}
/-- from this configuration the machine comes to Q -/
def GG (p : Program) (l : Launch) (e : Env) (R : Room) (s : State) (m : MethodId) (args : Array Value) (below : List Frame) (meth : Method) (c : Code) (Q : State → Prop) (X : RX) (D : va_G) (cA : Nat → ClassId) (base nL c0 k0 cF kF : Nat) (cf : PCf) : Prop :=
  ∀ (ad : Nat → Nat) (lsR : Array Slot) (H : Heap) (locs : List Loc), PI X D cA base ad cf.2.2.2 s H locs → LR ad cf.2.1 lsR nL → okT cf.2.2.2 cf.2.2.1 → okL cf.2.2.2 cf.2.1 →
    c0 ≤ m_ce cf.2.2.2 → k0 ≤ m_sl cf.2.2.2 → m_ce cf.2.2.2 ≤ cF → m_sl cf.2.2.2 ≤ kF →
    W p l e R s m args below meth c H locs (m_ce cf.2.2.2 - c0) (m_sl cf.2.2.2 - k0) Q (F0 m cf.1 lsR (cf.2.2.1.map (tv ad)))
theorem nx_inj {pc n : Nat} {ls : PLs} {st : List PV} {h : PM} {cf : PCf} (hs : p_nx pc n ls st h = some (.inl cf)) : cf = (pc + n, ls, st, h) := by
  unfold p_nx at hs
  have := Option.some.inj hs
  cases this
  rfl
theorem sn_i2 {pc : Nat} {ls : PLs} {st : List PV} {h : PM} {cf : PCf} {f : Int → Int → Int} {op : Int32 → Int32 → Int32} (hs : p_i2 f pc ls st h = some (.inl cf)) (hf : ∀ x y, f x y = (op (p_I x) (p_I y)).toInt)
    (row : ∀ (x y : Int32) (lsR : Array Slot) (H : Heap) (locs : List Loc) (cells slots : Nat) (rest : List Value), W p l e R s m args below meth c H locs cells slots Q (F0 m (pc + 1) lsR (.int (op x y) :: rest)) → W p l e R s m args below meth c H locs cells slots Q (F0 m pc lsR (.int y :: .int x :: rest)))
    (K : GG p l e R s m args below meth c Q X D cA base nL c0 k0 cF kF cf) : GG p l e R s m args below meth c Q X D cA base nL c0 k0 cF kF (pc, ls, st, h) := by
  match st, hs with
  | .inl y :: .inl x :: st, hs =>
    cases nx_inj hs
    intro ad lsR H locs hP hL hT hl h1 h2 h3 h4
    refine row (p_I x) (p_I y) _ _ _ _ _ _ ?_
    have := K ad lsR H locs hP hL (okT.cons (by show cnI (f x y); rw [hf]; exact cnI_toInt _) hT.tail.tail) hl h1 h2 h3 h4
    rw [← p_I_toInt (op (p_I x) (p_I y)), ← hf]
    exact this
theorem sn_i2d {pc : Nat} {ls : PLs} {st : List PV} {h : PM} {cf : PCf} {f : Int → Int → Int} {op : Int32 → Int32 → Int32} (hs : p_i2d f pc ls st h = some (.inl cf)) (hf : ∀ x y, f x y = (op (p_I x) (p_I y)).toInt)
    (row : ∀ (x y : Int32) (lsR : Array Slot) (H : Heap) (locs : List Loc) (cells slots : Nat) (rest : List Value), ¬ y = 0 → W p l e R s m args below meth c H locs cells slots Q (F0 m (pc + 1) lsR (.int (op x y) :: rest)) → W p l e R s m args below meth c H locs cells slots Q (F0 m pc lsR (.int y :: .int x :: rest)))
    (K : GG p l e R s m args below meth c Q X D cA base nL c0 k0 cF kF cf) : GG p l e R s m args below meth c Q X D cA base nL c0 k0 cF kF (pc, ls, st, h) := by
  match st, hs with
  | .inl y :: .inl x :: st, hs =>
    by_cases hy : y = 0
    · unfold p_i2d at hs
      simp only [hy, decide_true, cond_true] at hs
      cases hs
    · unfold p_i2d at hs
      simp only [hy, decide_false, cond_false] at hs
      cases nx_inj hs
      intro ad lsR H locs hP hL hT hl h1 h2 h3 h4
      have hcy : cnI y := hT.head
      refine row (p_I x) (p_I y) _ _ _ _ _ _ (fun h0 => hy ((cn_eq hcy cn_0).mp h0)) ?_
      have := K ad lsR H locs hP hL (okT.cons (by show cnI (f x y); rw [hf]; exact cnI_toInt _) hT.tail.tail) hl h1 h2 h3 h4
      rw [← p_I_toInt (op (p_I x) (p_I y)), ← hf]
      exact this
theorem sn_l2 {pc : Nat} {ls : PLs} {st : List PV} {h : PM} {cf : PCf} {f : Int → Int → Int} {op : Int64 → Int64 → Int64} (hs : p_l2 f pc ls st h = some (.inl cf)) (hf : ∀ x y, f x y = (op (p_L x) (p_L y)).toInt)
    (row : ∀ (x y : Int64) (lsR : Array Slot) (H : Heap) (locs : List Loc) (cells slots : Nat) (rest : List Value), W p l e R s m args below meth c H locs cells slots Q (F0 m (pc + 1) lsR (.long (op x y) :: rest)) → W p l e R s m args below meth c H locs cells slots Q (F0 m pc lsR (.long y :: .long x :: rest)))
    (K : GG p l e R s m args below meth c Q X D cA base nL c0 k0 cF kF cf) : GG p l e R s m args below meth c Q X D cA base nL c0 k0 cF kF (pc, ls, st, h) := by
  match st, hs with
  | .inr (.inl y) :: .inr (.inl x) :: st, hs =>
    cases nx_inj hs
    intro ad lsR H locs hP hL hT hl h1 h2 h3 h4
    refine row (p_L x) (p_L y) _ _ _ _ _ _ ?_
    have := K ad lsR H locs hP hL (okT.cons (by show cnL (f x y); rw [hf]; exact cnL_toInt _) hT.tail.tail) hl h1 h2 h3 h4
    rw [← p_L_toInt (op (p_L x) (p_L y)), ← hf]
    exact this
theorem sn_i1 {pc : Nat} {ls : PLs} {st : List PV} {h : PM} {cf : PCf} {f : Int → Int} {op : Int32 → Int32} (hs : p_i1 f pc ls st h = some (.inl cf)) (hf : ∀ x, f x = (op (p_I x)).toInt)
    (row : ∀ (x : Int32) (lsR : Array Slot) (H : Heap) (locs : List Loc) (cells slots : Nat) (rest : List Value), W p l e R s m args below meth c H locs cells slots Q (F0 m (pc + 1) lsR (.int (op x) :: rest)) → W p l e R s m args below meth c H locs cells slots Q (F0 m pc lsR (.int x :: rest)))
    (K : GG p l e R s m args below meth c Q X D cA base nL c0 k0 cF kF cf) : GG p l e R s m args below meth c Q X D cA base nL c0 k0 cF kF (pc, ls, st, h) := by
  match st, hs with
  | .inl x :: st, hs =>
    cases nx_inj hs
    intro ad lsR H locs hP hL hT hl h1 h2 h3 h4
    refine row (p_I x) _ _ _ _ _ _ ?_
    have := K ad lsR H locs hP hL (okT.cons (by show cnI (f x); rw [hf]; exact cnI_toInt _) hT.tail) hl h1 h2 h3 h4
    rw [← p_I_toInt (op (p_I x)), ← hf]
    exact this
theorem sn_psi {pc n : Nat} {ls : PLs} {st : List PV} {h : PM} {cf : PCf} {v : Int} {b : Bool} (hs : p_psi v b pc n ls st h = some (.inl cf))
    (row : ∀ (lsR : Array Slot) (H : Heap) (locs : List Loc) (cells slots : Nat) (rest : List Value), b = true → W p l e R s m args below meth c H locs cells slots Q (F0 m (pc + n) lsR (.int (p_I v) :: rest)) → W p l e R s m args below meth c H locs cells slots Q (F0 m pc lsR rest))
    (K : GG p l e R s m args below meth c Q X D cA base nL c0 k0 cF kF cf) : GG p l e R s m args below meth c Q X D cA base nL c0 k0 cF kF (pc, ls, st, h) := by
  unfold p_psi at hs
  cases hb : b with
  | false => rw [hb] at hs; cases hs
  | true =>
    cases hv : p_cn v with
    | false => rw [hb, hv] at hs; cases hs
    | true =>
      rw [hb, hv] at hs
      have hs : p_nx pc n ls (vI v :: st) h = some (.inl cf) := hs
      cases nx_inj hs
      intro ad lsR H locs hP hL hT hl h1 h2 h3 h4
      have hcv : cnI v := (of_decide_eq_true hv : (p_I v).toInt = v)
      exact row _ _ _ _ _ _ hb (K ad lsR H locs hP hL (okT.cons hcv hT) hl h1 h2 h3 h4)
theorem sn_lda {t pc n k : Nat} {ls : PLs} {st : List PV} {h : PM} {cf : PCf} (hs : p_lda t k pc n ls st h = some (.inl cf))
    (row : ∀ (ad : Nat → Nat) (v : PV) (lsR : Array Slot) (H : Heap) (locs : List Loc) (cells slots : Nat) (rest : List Value), p_tg v = t → lsR[k]? = some (Slot.val (tv ad v)) → W p l e R s m args below meth c H locs cells slots Q (F0 m (pc + n) lsR (tv ad v :: rest)) → W p l e R s m args below meth c H locs cells slots Q (F0 m pc lsR rest))
    (K : GG p l e R s m args below meth c Q X D cA base nL c0 k0 cF kF cf) : GG p l e R s m args below meth c Q X D cA base nL c0 k0 cF kF (pc, ls, st, h) := by
  unfold p_lda at hs
  cases hv : p_ld ls k with
  | none => rw [hv] at hs; cases hs
  | some v =>
    rw [hv] at hs
    have hs : (bif Nat.beq (p_tg v) t then p_nx pc n ls (v :: st) h else none) = some (.inl cf) := hs
    cases ht : Nat.beq (p_tg v) t with
    | false => rw [ht] at hs; cases hs
    | true =>
      rw [ht] at hs
      have hs : p_nx pc n ls (v :: st) h = some (.inl cf) := hs
      cases nx_inj hs
      intro ad lsR H locs hP hL hT hl h1 h2 h3 h4
      have hk := p_ld_some.mp hv
      exact row ad v _ _ _ _ _ _ (Nat.eq_of_beq_eq_true ht) (hL.2.2.2 k v hk) (K ad lsR H locs hP hL (okT.cons (hl v (List.mem_of_getElem? hk)) hT) hl h1 h2 h3 h4)
theorem sn_sta {t pc n k : Nat} {ls : PLs} {st : List PV} {h : PM} {cf : PCf} (hs : p_sta t k pc n ls st h = some (.inl cf))
    (row : ∀ (ad : Nat → Nat) (v : PV) (lv : List (Nat × Value)) (lsR : Array Slot) (H : Heap) (locs : List Loc) (cells slots : Nat) (rest : List Value), p_tg v = t → lv_has lsR nL lv → k < nL → (∀ lsR' : Array Slot, lv_has lsR' nL ((k, tv ad v) :: lv.filter (fun q => !(q.1 == k) && !(q.1 + 1 == k && q.2.category == 2))) → W p l e R s m args below meth c H locs cells slots Q (F0 m (pc + n) lsR' rest)) → W p l e R s m args below meth c H locs cells slots Q (F0 m pc lsR (tv ad v :: rest)))
    (K : GG p l e R s m args below meth c Q X D cA base nL c0 k0 cF kF cf) : GG p l e R s m args below meth c Q X D cA base nL c0 k0 cF kF (pc, ls, st, h) := by
  match st, hs with
  | v :: st, hs =>
    unfold p_sta at hs
    cases hp : p_st ls k v with
    | none => simp only [hp] at hs; cases hs
    | some ls' =>
      simp only [hp] at hs
      cases hlt : Nat.blt k ls.length with
      | false => rw [hlt] at hs; cases hs
      | true =>
        cases ht : Nat.beq (p_tg v) t with
        | false => rw [hlt, ht] at hs; cases hs
        | true =>
          rw [hlt, ht] at hs
          have hs : p_nx pc n ls' st h = some (.inl cf) := hs
          have hk : k < ls.length := Nat.le_of_ble_eq_true hlt
          cases nx_inj hs
          intro ad lsR H locs hP hL hT hl h1 h2 h3 h4
          have hq := (p_st_spec hp).1
          refine row ad v (lvl ad ls) _ _ _ _ _ _ (Nat.eq_of_beq_eq_true ht) hL.has (by have := hL.2.2.1; dsimp only at this; omega) (fun lsR' hh => ?_)
          refine K ad lsR' H locs hP (hL.store hp hh) hT.tail ?_ h1 h2 h3 h4
          rw [hq]
          exact okL.set hl hT.head k
theorem sn_stl {pc n k : Nat} {ls : PLs} {st : List PV} {h : PM} {cf : PCf} (hs : p_stl k pc n ls st h = some (.inl cf))
    (row : ∀ (x : Int64) (lv : List (Nat × Value)) (lsR : Array Slot) (H : Heap) (locs : List Loc) (cells slots : Nat) (rest : List Value), lv_has lsR nL lv → k + 1 < nL → (∀ lsR' : Array Slot, lv_has lsR' nL ((k, .long x) :: lv.filter (fun q => !(q.1 == k) && (!(q.1 == k + 1) && !(q.1 + 1 == k && q.2.category == 2)))) → W p l e R s m args below meth c H locs cells slots Q (F0 m (pc + n) lsR' rest)) → W p l e R s m args below meth c H locs cells slots Q (F0 m pc lsR (.long x :: rest)))
    (K : GG p l e R s m args below meth c Q X D cA base nL c0 k0 cF kF cf) : GG p l e R s m args below meth c Q X D cA base nL c0 k0 cF kF (pc, ls, st, h) := by
  match st, hs with
  | .inr (.inl x) :: st, hs =>
    unfold p_stl at hs
    cases hp : p_st ls k (vL x) with
    | none => simp only [hp] at hs; cases hs
    | some ls' =>
      simp only [hp] at hs
      cases hlt : Nat.blt (k + 1) ls.length with
      | false => simp only [hlt, cond_false] at hs; cases hs
      | true =>
        simp only [hlt, cond_true] at hs
        have hlt' : k + 1 < ls.length := Nat.le_of_ble_eq_true hlt
        cases nx_inj hs
        intro ad lsR H locs hP hL hT hl h1 h2 h3 h4
        have hq := (p_st_spec hp).1
        refine row (p_L x) (lvl ad ls) _ _ _ _ _ _ hL.has (by have := hL.2.2.1; dsimp only at this; omega) (fun lsR' hh => ?_)
        refine K ad lsR' H locs hP (hL.storeL hp hh) hT.tail ?_ h1 h2 h3 h4
        rw [hq]
        exact (okL.set hl hT.head k).setN (k + 1)
theorem sn_if {b : Bool} {pc : Nat} {off : Int} {ls : PLs} {st : List PV} {h : PM} {cf : PCf} (hs : p_if b pc off ls st h = some (.inl cf)) : (pc : Int) + off = (p_tgt pc off : Nat) ∧ ((b = true ∧ cf = (p_tgt pc off, ls, st, h)) ∨ (b = false ∧ cf = (pc + 3, ls, st, h))) := by
  unfold p_if at hs
  cases hd : decide (0 ≤ (pc : Int) + off) with
  | false => rw [hd] at hs; cases hs
  | true =>
    rw [hd] at hs
    have h0 : 0 ≤ (pc : Int) + off := of_decide_eq_true hd
    refine ⟨by unfold p_tgt; omega, ?_⟩
    cases b with
    | true => exact Or.inl ⟨rfl, nx_inj hs⟩
    | false => exact Or.inr ⟨rfl, nx_inj hs⟩
/-- a branch: the machine's condition P is the pure one -/
theorem sn_br {b : Bool} {P : Prop} {pc : Nat} {off : Int} {ls : PLs} {st st0 : List PV} {h : PM} {cf : PCf} (hs : p_if b pc off ls st h = some (.inl cf)) {ad : Nat → Nat} {lsR : Array Slot} {H : Heap} {locs : List Loc} (hPb : P ↔ b = true)
    (row : (pc : Int) + off = (p_tgt pc off : Nat) → (P → W p l e R s m args below meth c H locs (m_ce h - c0) (m_sl h - k0) Q (F0 m (p_tgt pc off) lsR (st.map (tv ad)))) → (¬ P → W p l e R s m args below meth c H locs (m_ce h - c0) (m_sl h - k0) Q (F0 m (pc + 3) lsR (st.map (tv ad)))) → W p l e R s m args below meth c H locs (m_ce h - c0) (m_sl h - k0) Q (F0 m pc lsR (st0.map (tv ad))))
    (K : GG p l e R s m args below meth c Q X D cA base nL c0 k0 cF kF cf) (hP : PI X D cA base ad h s H locs) (hL : LR ad ls lsR nL) (hT : okT h st) (hl : okL h ls) (h1 : c0 ≤ m_ce h) (h2 : k0 ≤ m_sl h) (h3 : m_ce h ≤ cF) (h4 : m_sl h ≤ kF) : W p l e R s m args below meth c H locs (m_ce h - c0) (m_sl h - k0) Q (F0 m pc lsR (st0.map (tv ad))) := by
  obtain ⟨ht, hb | hb⟩ := sn_if hs
  · obtain ⟨hb, rfl⟩ := hb
    exact row ht (fun _ => K ad lsR H locs hP hL hT hl h1 h2 h3 h4) (fun hn => absurd (hPb.mpr hb) hn)
  · obtain ⟨hb, rfl⟩ := hb
    exact row ht (fun hp => by have := hPb.mp hp; rw [hb] at this; cases this) (fun _ => K ad lsR H locs hP hL hT hl h1 h2 h3 h4)
end Steps
end
