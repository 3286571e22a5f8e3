/-! ===== soundness of the steps that read and write the heap ===== -/
noncomputable section
theorem pl_at_eq {α : Type} : ∀ (l : List α) (n : Nat), pl_at l n = l[n]?
  | [], n => by simp [pl_at]
  | a :: _, 0 => by simp [pl_at]
  | a :: t, n + 1 => by
    show pl_at t n = _
    rw [pl_at_eq t n, List.getElem?_cons_succ]
theorem beq_ne {a b : Nat} (h : a ≠ b) : Nat.beq a b = false := by
  cases hb : Nat.beq a b with
  | false => rfl
  | true => exact absurd (Nat.eq_of_beq_eq_true hb) h
def tyTag (ty : FieldType) : Nat := match ty with
  | .int => 0
  | .byte => 0
  | .boolean => 1
  | .long => 2
  | .object _ => 3
  | .array _ => 3
  | _ => 9
/-- what is known of class number ci -/
def CLS (Ts : List Cond) (ci : Nat) (C : String) (T : u_T) (N : Nat) (ty : Nat → FieldType) : Prop :=
  vwCl[ci]? = some (C, T, N) ∧ (∀ w ∈ u_ws C T N, w ∈ Ts) ∧ (∀ k, k < N → parseFieldDescriptor (T k).2.2.1 = some (ty k)) ∧ (∀ a, a < N → ∀ b, b < N → a ≠ b → (T a).2.1 ≠ (T b).2.1) ∧ (fts ci).length = N ∧
    ∀ k, k < N → (fts ci)[k]? = some (tyTag (ty k)) ∧ tyTag (ty k) ≤ 3 ∧ (0 < ci → ty k ≠ .byte)
def FLD (Ts : List Cond) (own : String) (ix ci k t : Nat) (fin : Bool) : Prop :=
  ∃ (C : String) (T : u_T) (N : Nat) (ty : Nat → FieldType), CLS Ts ci C T N ty ∧ k < N ∧ Cond.fieldLink own ix (T k).1 (T k).2.1 (T k).2.2.1 ∈ Ts ∧ (fts ci)[k]? = some t ∧ (T k).2.2.2 = fin ∧ (fin = true → (T k).1 = C)
theorem fvs_get {ad : Nat → Nat} {h : PM} {i : Nat} : ∀ (ts : List Nat) (k0 j : Nat), (fvs ad h i ts k0)[j]? = (ts[j]?).map (fun t => fv ad h i t (k0 + j))
  | [], k0, j => by simp [fvs]
  | t :: ts, k0, 0 => by simp [fvs]
  | t :: ts, k0, j + 1 => by
    show (fvs ad h i ts (k0 + 1))[j]? = _
    rw [fvs_get ts (k0 + 1) j, List.getElem?_cons_succ, show k0 + 1 + j = k0 + (j + 1) by omega]
theorem fvs_len {ad : Nat → Nat} {h : PM} {i : Nat} : ∀ (ts : List Nat) (k0 : Nat), (fvs ad h i ts k0).length = ts.length
  | [], _ => rfl
  | _ :: ts, k0 => by
    show (fvs ad h i ts (k0 + 1)).length + 1 = _
    rw [fvs_len ts (k0 + 1)]
    rfl
theorem fvs_set {ad : Nat → Nat} {h h' : PM} {i k : Nat} (ts : List Nat) (t : Nat) (hk : ts[k]? = some t) (e : ∀ j t', j ≠ k → fv ad h' i t' j = fv ad h i t' j) : fvs ad h' i ts 0 = (fvs ad h i ts 0).set k (fv ad h' i t k) := by
  apply List.ext_getElem?
  intro j
  have hl := (List.getElem?_eq_some_iff.mp hk).1
  by_cases hj : j = k
  · subst hj
    rw [List.getElem?_set_self (by rw [fvs_len]; exact hl), fvs_get, hk]
    show some (fv ad h' i t (0 + j)) = _
    rw [Nat.zero_add]
  · rw [List.getElem?_set_ne (Ne.symm hj), fvs_get, fvs_get]
    cases hq : ts[j]? with
    | none => rfl
    | some t' =>
      show some (fv ad h' i t' (0 + j)) = some (fv ad h i t' (0 + j))
      rw [Nat.zero_add, e j t' hj]
theorem up2_ne {α : Type} {f : Nat → Nat → α} {a k b : Nat} {v : α} (h : b ≠ a) : up2 f a k v b = f b := by
  funext j
  unfold up2
  rw [if_neg (fun z => h z.1)]
theorem up2_nek {α : Type} {f : Nat → Nat → α} {a k b j : Nat} {v : α} (h : j ≠ k) : up2 f a k v b j = f b j := by
  unfold up2
  rw [if_neg (fun z => h z.2)]
theorem up2_eq {α : Type} {f : Nat → Nat → α} {a k : Nat} {v : α} : up2 f a k v a k = v := by
  unfold up2
  rw [if_pos ⟨rfl, rfl⟩]
theorem up1_ne {α : Type} {f : Nat → α} {a b : Nat} {v : α} (h : b ≠ a) : up1 f a v b = f b := by
  unfold up1
  rw [if_neg h]
theorem up1_eq {α : Type} {f : Nat → α} {a : Nat} {v : α} : up1 f a v a = v := by
  unfold up1
  rw [if_pos rfl]
theorem cel_obj {cA : Nat → ClassId} {ad : Nat → Nat} {h : PM} {i ci : Nat} (hk : m_kd h i = 10 + ci) : cel cA ad h i = .inr (ci, fvs ad h i (fts ci) 0) := by
  unfold cel
  rw [hk, if_neg (by omega), if_neg (by omega), if_neg (by omega), if_neg (by omega), if_neg (by omega), show 10 + ci - 10 = ci by omega]
theorem cel_i {cA : Nat → ClassId} {ad : Nat → Nat} {h : PM} {i : Nat} (hk : m_kd h i = 0) : cel cA ad h i = .inl (cA 0, m_ln h i, .inl (fun j => p_I (h.1 i j))) := by
  unfold cel; rw [if_pos hk]
theorem cel_b {cA : Nat → ClassId} {ad : Nat → Nat} {h : PM} {i : Nat} (hk : m_kd h i = 1) : cel cA ad h i = .inl (cA 1, m_ln h i, .inl (fun j => p_I (h.1 i j))) := by
  unfold cel; rw [if_neg (by omega), if_pos hk]
theorem cel_l {cA : Nat → ClassId} {ad : Nat → Nat} {h : PM} {i : Nat} (hk : m_kd h i = 2) : cel cA ad h i = .inl (cA 2, m_ln h i, .inr (.inl (fun j => p_L (h.1 i j)))) := by
  unfold cel; rw [if_neg (by omega), if_neg (by omega), if_pos hk]
theorem cel_p {cA : Nat → ClassId} {ad : Nat → Nat} {h : PM} {i : Nat} (hk : m_kd h i = 3) : cel cA ad h i = .inl (cA 3, m_ln h i, .inr (.inr (.inr (.inr (ra ad h i))))) := by
  unfold cel; rw [if_neg (by omega), if_neg (by omega), if_neg (by omega), if_pos hk]
theorem cel_r {cA : Nat → ClassId} {ad : Nat → Nat} {h : PM} {i : Nat} (hk : m_kd h i = 4) : cel cA ad h i = .inl (cA 4, m_ln h i, .inr (.inr (.inr (.inr (ra ad h i))))) := by
  unfold cel; rw [if_neg (by omega), if_neg (by omega), if_neg (by omega), if_neg (by omega), if_pos hk]
/-- a cell depends on its own row alone -/
theorem cel_same {cA : Nat → ClassId} {ad : Nat → Nat} {h h' : PM} {j : Nat} (e1 : h'.1 j = h.1 j) (e2 : h'.2.1 j = h.2.1 j) (e3 : h'.2.2.1 j = h.2.2.1 j) : cel cA ad h' j = cel cA ad h j := by
  have k1 : m_kd h' j = m_kd h j := by unfold m_kd; rw [e3]
  have k2 : m_ln h' j = m_ln h j := by unfold m_ln; rw [e3]
  have k3 : ra ad h' j = ra ad h j := by unfold ra; rw [e2]
  have k4 : ∀ ts k0, fvs ad h' j ts k0 = fvs ad h j ts k0 := by
    intro ts
    induction ts with
    | nil => intro k0; rfl
    | cons t ts ih =>
      intro k0
      show fv ad h' j t k0 :: fvs ad h' j ts (k0 + 1) = fv ad h j t k0 :: fvs ad h j ts (k0 + 1)
      rw [ih]
      unfold fv
      rw [e1, e2]
  unfold cel
  rw [k1, k2, k3, k4, e1]
theorem tv_ref {ad : Nat → Nat} {kd n a : Nat} (h : kd ≠ 8) : tv ad (vR (some (kd, n, a))) = .ref (ad a) := by
  show (if kd = 8 then _ else Value.ref (ad a)) = _
  rw [if_neg h]
/-- one number of a cell is written -/
theorem okH.si {h : PM} (hh : okH h) {a k : Nat} {x : Int} (ha : a < m_sz h) (hx : (ctg (m_kd h a) k = 2 ∧ cnL x) ∨ (ctg (m_kd h a) k ≠ 2 ∧ ctg (m_kd h a) k ≠ 3 ∧ cnI x)) : okH (m_si h a k x) := by
  refine ⟨hh.1, hh.2.1, fun i j hi => ?_⟩
  have h0 := hh.2.2 i j hi
  unfold okC at h0 ⊢
  show if ctg (m_kd h i) j = 2 then cnL (up2 h.1 a k x i j) else if ctg (m_kd h i) j = 3 then okR h (h.2.1 i j) else cnI (up2 h.1 a k x i j)
  by_cases hij : i = a ∧ j = k
  · obtain ⟨rfl, rfl⟩ := hij
    rw [up2_eq]
    rcases hx with ⟨t1, t2⟩ | ⟨t1, t2, t3⟩
    · rw [if_pos t1]; exact t2
    · rw [if_neg t1, if_neg t2]; exact t3
  · have : up2 h.1 a k x i j = h.1 i j := by unfold up2; rw [if_neg hij]
    rw [this]
    exact h0
theorem okH.sr {h : PM} (hh : okH h) {a k : Nat} {r : Rf} (hr : okR h r) : okH (m_sr h a k r) := by
  refine ⟨hh.1, hh.2.1, fun i j hi => ?_⟩
  have h0 := hh.2.2 i j hi
  unfold okC at h0 ⊢
  show if ctg (m_kd h i) j = 2 then cnL (h.1 i j) else if ctg (m_kd h i) j = 3 then okR h (up2 h.2.1 a k r i j) else cnI (h.1 i j)
  by_cases hij : i = a ∧ j = k
  · obtain ⟨rfl, rfl⟩ := hij
    rw [up2_eq]
    by_cases t2 : ctg (m_kd h i) j = 2
    · rw [if_pos t2] at h0 ⊢; exact h0
    · rw [if_neg t2] at h0 ⊢
      by_cases t3 : ctg (m_kd h i) j = 3
      · rw [if_pos t3]; exact hr
      · rw [if_neg t3] at h0 ⊢; exact h0
  · have : up2 h.2.1 a k r i j = h.2.1 i j := by unfold up2; rw [if_neg hij]
    rw [this]
    exact h0
theorem roS.si {X : RX} {h : PM} {ad : Nat → Nat} (hr : roS X h ad) {a k : Nat} {x : Int} (ha : 31 ≤ a) : roS X (m_si h a k x) ad := by
  intro i hi
  obtain ⟨e1, e2, e3, e4⟩ := hr i hi
  exact ⟨e1, (up2_ne (by omega)).trans e2, e3, e4⟩
theorem roS.sr {X : RX} {h : PM} {ad : Nat → Nat} (hr : roS X h ad) {a k : Nat} {r : Rf} (ha : 31 ≤ a) : roS X (m_sr h a k r) ad := by
  intro i hi
  obtain ⟨e1, e2, e3, e4⟩ := hr i hi
  exact ⟨e1, e2, (up2_ne (by omega)).trans e3, e4⟩
theorem okV.si {h : PM} {a k : Nat} {x : Int} {v : PV} (hv : okV h v) : okV (m_si h a k x) v := by
  rcases v with y | y | r
  · exact hv
  · exact hv
  · exact hv
theorem okV.sr {h : PM} {a k : Nat} {r0 : Rf} {v : PV} (hv : okV h v) : okV (m_sr h a k r0) v := by
  rcases v with y | y | r
  · exact hv
  · exact hv
  · exact hv
section Steps
variable {p : Program} {l : Launch} {e : Env} {R : Room} {s : State} {m : MethodId} {args : Array Value} {below : List Frame} {meth : Method} {c : Code} {Q : State → Prop}
variable {X : RX} {D : va_G} {cA : Nat → ClassId} {base nL c0 k0 cF kF : Nat}
abbrev tys5 (cA : Nat → ClassId) : List (ClassId × FieldType) := [(cA 0, .int), (cA 1, .byte), (cA 2, .long), (cA 3, .object "MapPieces$Piece"), (cA 4, .object "MapPieces$Ring")]
/-- what is known of the constants that are Strings -/
def STR (X : RX) (base : Nat) (s : State) : Prop := ∀ a, a < 31 → (X.2.2.2 a).1 = 6 → ∀ ad : Nat → Nat, (∀ i, i < 31 → ad i = X.1 i) → va_OF "java/lang/String" "value" "[B" (tv ad (vR (X.2.2.1 a 0))) (X.1 a) (AB base) s s.heap ∧ va_OF "java/lang/String" "coder" "B" (.int (p_I (X.2.1 a 1))) (X.1 a) (AB base) s s.heap
theorem sn_get {mi : Nat × Nat} {pc ix : Nat} {ls : PLs} {st : List PV} {h : PM} {cf : PCf} {cc : ByteArray} {own : String} {Ts : List Cond} (hexec : p.tables.exec = Jvm.exec) (hb : c.code = cc) (hown : s.vm.findClass own = some m.cls) (hts : ∀ w ∈ Ts, w.before args s = true) (hK : va_K D vwCl (tys5 cA) s) (hSt : STR X base s)
    (hF : ∀ ci k t fin, pm_fld mi.1 ix = some (ci, k, t, fin) → FLD Ts own ix ci k t fin) (hd : decode cc pc = .ok (.getfield ix, 3)) (hs : p_get mi ix pc 3 ls st h = some (.inl cf))
    (K : GG p l e R s m args below meth c Q X D cA base nL c0 k0 cF kF cf) : GG p l e R s m args below meth c Q X D cA base nL c0 k0 cF kF (pc, ls, st, h) := by
  unfold p_get at hs
  cases hfd : pm_fld mi.1 ix with
  | none => rw [hfd] at hs; cases hs
  | some q =>
    obtain ⟨ci, k, t, fin⟩ := q
    rw [hfd] at hs
    match st, hs with
    | .inr (.inr (some (kd, n, a))) :: st, hs =>
      have hs : (bif (Nat.beq kd (10 + ci) || (Nat.beq kd 6 && Nat.beq ci 0)) then p_nx pc 3 ls ((bif Nat.beq t 3 then vR (h.2.1 a k) else bif Nat.beq t 2 then vL (h.1 a k) else vI (h.1 a k)) :: st) h else none) = some (.inl cf) := hs
      obtain ⟨C, T, N, ty, hC, hk, hlk, htk, hfin, -⟩ := hF ci k t fin hfd
      obtain ⟨hC1, hC2, hC3, hC4, hC5, hC6⟩ := hC
      obtain ⟨q1, q2, q3⟩ := hC6 k hk
      have htt : t = tyTag (ty k) := Option.some.inj (htk.symm.trans q1)
      cases hcond : (Nat.beq kd (10 + ci) || (Nat.beq kd 6 && Nat.beq ci 0)) with
      | false => rw [hcond] at hs; cases hs
      | true =>
        rw [hcond] at hs
        have hs : p_nx pc 3 ls ((bif Nat.beq t 3 then vR (h.2.1 a k) else bif Nat.beq t 2 then vL (h.1 a k) else vI (h.1 a k)) :: st) h = some (.inl cf) := hs
        generalize hve : (bif Nat.beq t 3 then vR (h.2.1 a k) else bif Nat.beq t 2 then vL (h.1 a k) else vI (h.1 a k)) = v at hs
        cases nx_inj hs
        intro ad lsR H locs hP hL hT hl h1 h2 h3 h4
        obtain ⟨hP1, hP2, hP3, hP4, hP5⟩ := hP
        obtain ⟨r1, r2, r3, r4⟩ := hT.head kd n a rfl
        have hvv : tv ad v = fv ad h a t k := by
          rw [← hve]
          unfold fv
          by_cases t3 : t = 3
          · subst t3; rfl
          · by_cases t2 : t = 2
            · subst t2; rfl
            · have b3 : Nat.beq t 3 = false := beq_ne t3
              have b2 : Nat.beq t 2 = false := beq_ne t2
              rw [b3, b2, if_neg t2, if_neg t3]
              rfl
        have hct : kd = 10 + ci → ctg (m_kd h a) k = t := by
          intro hq
          rw [r2, hq]
          unfold ctg
          rw [if_neg (by omega), if_neg (by omega), if_neg (by omega), if_pos (by omega), show 10 + ci - 10 = ci by omega, pl_at_eq, htk]
          rfl
        have hov : ctg (m_kd h a) k = t → okV h v := by
          intro hc
          have h0 := hP4.2.2 a k r1
          unfold okC at h0
          rw [hc] at h0
          rw [← hve]
          by_cases t3 : t = 3
          · subst t3; exact h0
          · by_cases t2 : t = 2
            · subst t2; exact h0
            · have b3 : Nat.beq t 3 = false := beq_ne t3
              have b2 : Nat.beq t 2 = false := beq_ne t2
              rw [b3, b2]
              rw [if_neg t2, if_neg t3] at h0
              exact h0
        rcases Bool.or_eq_true_iff.mp hcond with hq | hq
        · have hkd : kd = 10 + ci := Nat.eq_of_beq_eq_true hq
          have ha31 : 31 ≤ a := r4.mpr (by
            intro z
            have hci : ci < 13 := (List.getElem?_eq_some_iff.mp hC1).1
            omega)
          have hg := wd_get (cA := cA) (ad := ad) ha31 r1
          rw [cel_obj (r2.trans hkd)] at hg
          show W p l e R s m args below meth c H locs _ _ Q (F0 m pc lsR (tv ad (vR (some (kd, n, a))) :: st.map (tv ad)))
          rw [tv_ref (by omega)]
          refine va_get (D := D) (ci := ci) (v := fv ad h a t k) (C := C) (T := T) (N := N) hexec hb hts hC2 hown hK hP1 (a - 31) hg hC1 k hk (hts _ hlk) (fun _ h9 => h9) (by rw [fvs_get, htk]; show some (fv ad h a t (0 + k)) = _; rw [Nat.zero_add]) hd ?_
          rw [← hvv]
          exact K ad lsR H locs ⟨hP1, hP2, hP3, hP4, hP5⟩ hL (okT.cons (hov (hct hkd)) hT.tail) hl h1 h2 h3 h4
        · obtain ⟨hq1, hq2⟩ := Bool.and_eq_true_iff.mp hq
          have hkd : kd = 6 := Nat.eq_of_beq_eq_true hq1
          have hci : ci = 0 := Nat.eq_of_beq_eq_true hq2
          subst hci
          subst hkd
          have ha31 : a < 31 := by
            rcases Nat.lt_or_ge a 31 with z | z
            · exact z
            · exact absurd ⟨by omega, by omega⟩ (r4.mp z)
          obtain ⟨e1, e2, e3, e4⟩ := hP5 a ha31
          have hsh : (X.2.2.2 a).1 = 6 := by rw [← e4.1]; exact r2
          obtain ⟨f1, f2⟩ := hSt a ha31 hsh ad (fun i hi => (hP5 i hi).1)
          have hC1' : some (RJ0, TJ0, 2) = some (C, T, N) := hC1
          cases hC1'
          have hctg : ctg (m_kd h a) k = t := by
            have hk2 : k < 2 := hk
            have hts9 : (fts 0)[k]? = some t := htk
            rw [r2]
            rcases (show k = 0 ∨ k = 1 by omega) with rfl | rfl
            · have : t = 3 := by
                have z : (fts 0)[0]? = some 3 := by decide +kernel
                exact Option.some.inj (hts9.symm.trans z)
              subst this
              rfl
            · have : t = 0 := by
                have z : (fts 0)[1]? = some 0 := by decide +kernel
                exact Option.some.inj (hts9.symm.trans z)
              subst this
              rfl
          show W p l e R s m args below meth c H locs _ _ Q (F0 m pc lsR (tv ad (vR (some (6, n, a))) :: st.map (tv ad)))
          rw [tv_ref (by omega), e1]
          have hfin2 : va_OF (TJ0 k).1 (TJ0 k).2.1 (TJ0 k).2.2.1 (tv ad v) (X.1 a) (AB base) s s.heap := by
            have hk2 : k < 2 := hk
            rw [hvv]
            have hts9 : (fts 0)[k]? = some t := htk
            rcases (show k = 0 ∨ k = 1 by omega) with rfl | rfl
            · have : t = 3 := by
                have z : (fts 0)[0]? = some 3 := by decide +kernel
                exact Option.some.inj (hts9.symm.trans z)
              subst this
              show va_OF "java/lang/String" "value" "[B" (tv ad (vR (h.2.1 a 0))) (X.1 a) (AB base) s s.heap
              rw [e3]
              exact f1
            · have : t = 0 := by
                have z : (fts 0)[1]? = some 0 := by decide +kernel
                exact Option.some.inj (hts9.symm.trans z)
              subst this
              show va_OF "java/lang/String" "coder" "B" (.int (p_I (h.1 a 1))) (X.1 a) (AB base) s s.heap
              rw [e2]
              exact f2
          refine vk_getf hexec hb hfin2 hP3 hown (hts _ hlk) (fun _ h9 => h9) hd ?_
          exact K ad lsR H locs ⟨hP1, hP2, hP3, hP4, hP5⟩ hL (okT.cons (hov hctg) hT.tail) hl h1 h2 h3 h4
end Steps
end
