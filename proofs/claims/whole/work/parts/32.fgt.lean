/-! ===== a run with some locals forgotten is a run with them ===== -/
noncomputable section
def relS (a : PLs) (q : PR) : PR := match q with
  | .inl (pc, _, st, h) => .inl (pc, a, st, h)
  | .inr (.inl (mj, av, (pc, _, st, h))) => .inr (.inl (mj, av, (pc, a, st, h)))
  | .inr (.inr r) => .inr (.inr r)
section
variable {a : PLs} {pc : Nat} {st : List PV} {h : PM}
theorem r_p_i2 {f : Int → Int → Int} : p_i2 f pc a st h = (p_i2 f pc [] st h).map (relS a) := by
  unfold p_i2
  try simp only [Bool.cond_eq_ite]
  repeat' split
  all_goals first
    | rfl
    | (exfalso; simp_all; done)
    | (simp_all; done)
    | (simp_all; rfl)
theorem r_p_i2d {f : Int → Int → Int} : p_i2d f pc a st h = (p_i2d f pc [] st h).map (relS a) := by
  unfold p_i2d
  try simp only [Bool.cond_eq_ite]
  repeat' split
  all_goals first
    | rfl
    | (exfalso; simp_all; done)
    | (simp_all; done)
    | (simp_all; rfl)
theorem r_p_l2 {f : Int → Int → Int} : p_l2 f pc a st h = (p_l2 f pc [] st h).map (relS a) := by
  unfold p_l2
  try simp only [Bool.cond_eq_ite]
  repeat' split
  all_goals first
    | rfl
    | (exfalso; simp_all; done)
    | (simp_all; done)
    | (simp_all; rfl)
theorem r_p_i1 {f : Int → Int} : p_i1 f pc a st h = (p_i1 f pc [] st h).map (relS a) := by
  unfold p_i1
  try simp only [Bool.cond_eq_ite]
  repeat' split
  all_goals first
    | rfl
    | (exfalso; simp_all; done)
    | (simp_all; done)
    | (simp_all; rfl)
theorem r_p_psi {v : Int} {c : Bool} {n : Nat} : p_psi v c pc n a st h = (p_psi v c pc n [] st h).map (relS a) := by
  unfold p_psi
  try simp only [Bool.cond_eq_ite]
  repeat' split
  all_goals first
    | rfl
    | (exfalso; simp_all; done)
    | (simp_all; done)
    | (simp_all; rfl)
theorem r_p_if {c : Bool} {off : Int} : p_if c pc off a st h = (p_if c pc off [] st h).map (relS a) := by
  unfold p_if
  try simp only [Bool.cond_eq_ite]
  repeat' split
  all_goals first
    | rfl
    | (exfalso; simp_all; done)
    | (simp_all; done)
    | (simp_all; rfl)
theorem r_p_sw {dflt lo hi : Int} {offs : Array Int} : p_sw pc dflt lo hi offs a st h = (p_sw pc dflt lo hi offs [] st h).map (relS a) := by
  unfold p_sw
  try simp only [Bool.cond_eq_ite]
  repeat' split
  all_goals first
    | rfl
    | (exfalso; simp_all; done)
    | (simp_all; done)
    | (simp_all; rfl)
theorem r_p_get {mi : Nat × Nat} {ix n : Nat} : p_get mi ix pc n a st h = (p_get mi ix pc n [] st h).map (relS a) := by
  unfold p_get
  try simp only [Bool.cond_eq_ite]
  repeat' split
  all_goals first
    | rfl
    | (exfalso; simp_all; done)
    | (simp_all; done)
    | (simp_all; rfl)
theorem r_p_put {mi : Nat × Nat} {ix n : Nat} : p_put mi ix pc n a st h = (p_put mi ix pc n [] st h).map (relS a) := by
  unfold p_put
  try simp only [Bool.cond_eq_ite]
  repeat' split
  all_goals first
    | rfl
    | (exfalso; simp_all; done)
    | (simp_all; done)
    | (simp_all; rfl)
theorem r_p_call {stc : Bool} {rk : Nat} {mj : Nat × Nat} : p_call stc rk mj pc a st h = (p_call stc rk mj pc [] st h).map (relS a) := by
  unfold p_call
  try simp only [Bool.cond_eq_ite]
  repeat' split
  all_goals first
    | rfl
    | (exfalso; simp_all; done)
    | (simp_all; done)
    | (simp_all; rfl)
theorem r_p_copy : p_copy pc a st h = (p_copy pc [] st h).map (relS a) := by
  unfold p_copy
  try simp only [Bool.cond_eq_ite]
  repeat' split
  all_goals first
    | rfl
    | (exfalso; simp_all; done)
    | (simp_all; done)
    | (simp_all; rfl)
theorem r_p_mm {f : Int → Int → Int} : p_mm f pc a st h = (p_mm f pc [] st h).map (relS a) := by
  unfold p_mm
  try simp only [Bool.cond_eq_ite]
  repeat' split
  all_goals first
    | rfl
    | (exfalso; simp_all; done)
    | (simp_all; done)
    | (simp_all; rfl)
theorem r_p_newa {kd n : Nat} : p_newa kd pc n a st h = (p_newa kd pc n [] st h).map (relS a) := by
  unfold p_newa
  try simp only [Bool.cond_eq_ite]
  repeat' split
  all_goals first
    | rfl
    | (exfalso; simp_all; done)
    | (simp_all; done)
    | (simp_all; rfl)
theorem r_p_ald {k0 k1 t : Nat} : p_ald k0 k1 t pc a st h = (p_ald k0 k1 t pc [] st h).map (relS a) := by
  unfold p_ald
  try simp only [Bool.cond_eq_ite]
  repeat' split
  all_goals first
    | rfl
    | (exfalso; simp_all; done)
    | (simp_all; done)
    | (simp_all; rfl)
theorem r_p_iast : p_iast pc a st h = (p_iast pc [] st h).map (relS a) := by
  unfold p_iast
  try simp only [Bool.cond_eq_ite]
  repeat' split
  all_goals first
    | rfl
    | (exfalso; simp_all; done)
    | (simp_all; done)
    | (simp_all; rfl)
theorem r_p_bast : p_bast pc a st h = (p_bast pc [] st h).map (relS a) := by
  unfold p_bast
  try simp only [Bool.cond_eq_ite]
  repeat' split
  all_goals first
    | rfl
    | (exfalso; simp_all; done)
    | (simp_all; done)
    | (simp_all; rfl)
theorem r_p_last : p_last pc a st h = (p_last pc [] st h).map (relS a) := by
  unfold p_last
  try simp only [Bool.cond_eq_ite]
  repeat' split
  all_goals first
    | rfl
    | (exfalso; simp_all; done)
    | (simp_all; done)
    | (simp_all; rfl)
theorem r_p_aast : p_aast pc a st h = (p_aast pc [] st h).map (relS a) := by
  unfold p_aast
  try simp only [Bool.cond_eq_ite]
  repeat' split
  all_goals first
    | rfl
    | (exfalso; simp_all; done)
    | (simp_all; done)
    | (simp_all; rfl)
theorem r_p_alen : p_alen pc a st h = (p_alen pc [] st h).map (relS a) := by
  unfold p_alen
  try simp only [Bool.cond_eq_ite]
  repeat' split
  all_goals first
    | rfl
    | (exfalso; simp_all; done)
    | (simp_all; done)
    | (simp_all; rfl)
theorem r_p_invk {k0 : Nat → Bool} {mi : Nat × Nat} {ix : Nat} : p_invk k0 mi ix pc a st h = (p_invk k0 mi ix pc [] st h).map (relS a) := by
  unfold p_invk
  try simp only [Bool.cond_eq_ite]
  repeat' split
  all_goals first
    | rfl
    | exact r_p_call
    | exact r_p_copy
    | exact r_p_mm
    | (exfalso; simp_all; done)
    | (simp_all; done)
    | (simp_all; rfl)
theorem r_p_special {mi : Nat × Nat} {ix : Nat} : p_special mi ix pc a st h = (p_special mi ix pc [] st h).map (relS a) := by
  unfold p_special
  try simp only [Bool.cond_eq_ite]
  repeat' split
  all_goals first
    | rfl
    | exact r_p_call
    | exact r_p_copy
    | exact r_p_mm
    | (exfalso; simp_all; done)
    | (simp_all; done)
    | (simp_all; rfl)
theorem r_p_static {mi : Nat × Nat} {ix : Nat} : p_static mi ix pc a st h = (p_static mi ix pc [] st h).map (relS a) := by
  unfold p_static
  try simp only [Bool.cond_eq_ite]
  repeat' split
  all_goals first
    | rfl
    | exact r_p_call
    | exact r_p_copy
    | exact r_p_mm
    | (exfalso; simp_all; done)
    | (simp_all; done)
    | (simp_all; rfl)
theorem r_p_new {mi : Nat × Nat} {ix : Nat} : p_new mi ix pc a st h = (p_new mi ix pc [] st h).map (relS a) := by
  unfold p_new
  try simp only [Bool.cond_eq_ite]
  repeat' split
  all_goals first
    | rfl
    | exact r_p_call
    | exact r_p_copy
    | exact r_p_mm
    | (exfalso; simp_all; done)
    | (simp_all; done)
    | (simp_all; rfl)
def isloc (i : Instr) : Bool := match i with
  | .iload_n _ | .iload _ | .lload_n _ | .lload _ | .aload_n _ | .aload _ | .istore_n _ | .istore _ | .astore_n _ | .astore _ | .lstore_n _ | .lstore _ | .iinc _ _ => true
  | _ => false
set_option maxHeartbeats 2000000 in
theorem ex_rel {mi : Nat × Nat} {i : Instr} {n : Nat} (hi : isloc i = false) : pm_ex mi i n pc a st h = (pm_ex mi i n pc [] st h).map (relS a) := by
  cases i
  all_goals first
    | (cases hi; done)
    | rfl
    | exact r_p_i2
    | exact r_p_i2d
    | exact r_p_l2
    | exact r_p_i1
    | exact r_p_psi
    | exact r_p_sw
    | exact r_p_get
    | exact r_p_put
    | exact r_p_ald
    | exact r_p_iast
    | exact r_p_bast
    | exact r_p_last
    | exact r_p_aast
    | exact r_p_alen
    | exact r_p_invk
    | exact r_p_special
    | exact r_p_static
    | exact r_p_new
    | (unfold pm_ex
       try simp only [Bool.cond_eq_ite]
       repeat' split
       all_goals first
         | rfl
         | exact r_p_if
         | exact r_p_newa
         | (exfalso; simp_all; done)
         | (simp_all; done)
         | (simp_all; rfl))
end
def LsLe (a b : PLs) : Prop := a.length = b.length ∧ (∀ (i : Nat) (v : PV), a[i]? = some (some v) → b[i]? = some (some v)) ∧ ∀ i : Nat, p_isL b[i]? = p_isL a[i]?
theorem le_ld {a b : PLs} {k : Nat} {v : PV} (hl : LsLe a b) (h : p_ld a k = some v) : p_ld b k = some v := p_ld_some.mpr (hl.2.1 k v (p_ld_some.mp h))
theorem le_set {a b : PLs} (hl : LsLe a b) (k : Nat) (w : Option PV) : LsLe (a.set k w) (b.set k w) := by
  obtain ⟨h1, h2, h3⟩ := hl
  refine ⟨by rw [List.length_set, List.length_set]; exact h1, fun i v h => ?_, fun i => ?_⟩
  · rw [List.getElem?_set] at h ⊢
    rw [← h1]
    by_cases hk : k = i
    · rw [if_pos hk] at h ⊢; exact h
    · rw [if_neg hk] at h ⊢; exact h2 i v h
  · rw [List.getElem?_set, List.getElem?_set, ← h1]
    by_cases hk : k = i
    · rw [if_pos hk, if_pos hk]
    · rw [if_neg hk, if_neg hk]; exact h3 i
theorem le_st {a b a' : PLs} {k : Nat} {v : PV} (hl : LsLe a b) (h : p_st a k v = some a') : ∃ b', p_st b k v = some b' ∧ LsLe a' b' := by
  cases k with
  | zero =>
    cases h
    exact ⟨_, rfl, le_set hl 0 _⟩
  | succ j =>
    have h : (bif p_isL a[j]? then none else some (a.set (j + 1) (some v))) = some a' := h
    cases hp : p_isL a[j]? with
    | true => rw [hp] at h; cases h
    | false =>
      rw [hp] at h
      cases h
      refine ⟨b.set (j + 1) (some v), ?_, le_set hl _ _⟩
      show (bif p_isL b[j]? then none else some (b.set (j + 1) (some v))) = _
      rw [hl.2.2 j, hp]
      rfl
def QLe (q q' : PR) : Prop := match q with
  | .inl (pc, a, st, h) => ∃ b, LsLe a b ∧ q' = .inl (pc, b, st, h)
  | .inr (.inl (mj, av, (pc, a, st, h))) => ∃ b, LsLe a b ∧ q' = .inr (.inl (mj, av, (pc, b, st, h)))
  | .inr (.inr r) => q' = .inr (.inr r)
theorem q_rel {a b : PLs} (hl : LsLe a b) (q : PR) : QLe (relS a q) (relS b q) := by
  rcases q with ⟨pc, c, st, h⟩ | ⟨mj, av, pc, c, st, h⟩ | r
  · exact ⟨b, hl, rfl⟩
  · exact ⟨b, hl, rfl⟩
  · exact rfl
section
variable {a b : PLs} {pc : Nat} {st : List PV} {h : PM} {q : PR}
theorem lda_le {t k n : Nat} (hl : LsLe a b) (hs : p_lda t k pc n a st h = some q) : ∃ q', p_lda t k pc n b st h = some q' ∧ QLe q q' := by
  unfold p_lda at hs ⊢
  cases hv : p_ld a k with
  | none => rw [hv] at hs; cases hs
  | some v =>
    rw [hv] at hs
    rw [le_ld hl hv]
    dsimp only at hs ⊢
    cases ht : Nat.beq (p_tg v) t with
    | false => rw [ht] at hs; cases hs
    | true =>
      rw [ht] at hs
      cases hs
      exact ⟨_, rfl, b, hl, rfl⟩
theorem sta_le {t k n : Nat} (hl : LsLe a b) (hs : p_sta t k pc n a st h = some q) : ∃ q', p_sta t k pc n b st h = some q' ∧ QLe q q' := by
  cases st with
  | nil => cases hs
  | cons v st =>
    unfold p_sta at hs ⊢
    dsimp only at hs ⊢
    cases hv : p_st a k v with
    | none => rw [hv] at hs; cases hs
    | some a' =>
      rw [hv] at hs
      obtain ⟨b', hb, hl'⟩ := le_st hl hv
      rw [hb, ← hl.1]
      dsimp only at hs ⊢
      cases ht : (Nat.blt k a.length && Nat.beq (p_tg v) t) with
      | false => rw [ht] at hs; cases hs
      | true =>
        rw [ht] at hs
        cases hs
        exact ⟨_, rfl, b', hl', rfl⟩
theorem stl_le {k n : Nat} (hl : LsLe a b) (hs : p_stl k pc n a st h = some q) : ∃ q', p_stl k pc n b st h = some q' ∧ QLe q q' := by
  match st, hs with
  | .inr (.inl x) :: st, hs =>
    unfold p_stl at hs ⊢
    dsimp only at hs ⊢
    cases hv : p_st a k (vL x) with
    | none => rw [hv] at hs; cases hs
    | some a' =>
      rw [hv] at hs
      obtain ⟨b', hb, hl'⟩ := le_st hl hv
      rw [hb, ← hl.1]
      dsimp only at hs ⊢
      cases ht : Nat.blt (k + 1) a.length with
      | false => rw [ht] at hs; cases hs
      | true =>
        rw [ht] at hs
        cases hs
        exact ⟨_, rfl, b'.set (k + 1) none, le_set hl' _ _, rfl⟩
theorem iinc_le {mi : Nat × Nat} {k n : Nat} {v : Int} (hl : LsLe a b) (hs : pm_ex mi (.iinc k v) n pc a st h = some q) : ∃ q', pm_ex mi (.iinc k v) n pc b st h = some q' ∧ QLe q q' := by
  have e : ∀ ls : PLs, pm_ex mi (.iinc k v) n pc ls st h = (match p_ld ls k with
    | some (.inl x) => match p_st ls k (vI (p_add x v)) with
      | some ls' => p_nx pc 3 ls' st h
      | none => none
    | _ => none) := fun _ => rfl
  rw [e] at hs
  rw [e]
  cases hv : p_ld a k with
  | none => rw [hv] at hs; cases hs
  | some w =>
    rw [hv] at hs
    rw [le_ld hl hv]
    rcases w with x | w
    · dsimp only at hs ⊢
      cases hw : p_st a k (vI (p_add x v)) with
      | none => rw [hw] at hs; cases hs
      | some a' =>
        rw [hw] at hs
        obtain ⟨b', hb, hl'⟩ := le_st hl hw
        rw [hb]
        cases hs
        exact ⟨_, rfl, b', hl', rfl⟩
    · cases hs
theorem ex_le {mi : Nat × Nat} {i : Instr} {n : Nat} (hl : LsLe a b) (hs : pm_ex mi i n pc a st h = some q) : ∃ q', pm_ex mi i n pc b st h = some q' ∧ QLe q q' := by
  cases hi : isloc i with
  | false =>
    rw [ex_rel hi] at hs
    cases h0 : pm_ex mi i n pc [] st h with
    | none => rw [h0] at hs; cases hs
    | some q0 =>
      rw [h0] at hs
      have hs : relS a q0 = q := Option.some.inj hs
      refine ⟨relS b q0, ?_, ?_⟩
      · rw [ex_rel hi, h0]; rfl
      · rw [← hs]; exact q_rel hl q0
  | true =>
    cases i
    all_goals first
      | (cases hi; done)
      | exact lda_le hl hs
      | exact sta_le hl hs
      | exact stl_le hl hs
      | exact iinc_le hl hs
theorem step_le {mi : Nat × Nat} (hl : LsLe a b) (hs : pm_step mi (pc, a, st, h) = some q) : ∃ q', pm_step mi (pc, b, st, h) = some q' ∧ QLe q q' := by
  unfold pm_step at hs ⊢
  dsimp only at hs ⊢
  cases hc : pm_code mi pc with
  | none => rw [hc] at hs; cases hs
  | some w =>
    obtain ⟨i, n⟩ := w
    rw [hc] at hs
    dsimp only at hs ⊢
    cases hn : p_lenok i n with
    | false => rw [hn] at hs; cases hs
    | true =>
      rw [hn] at hs
      exact ex_le (n := n) hl hs
theorem hst_le {t k n : Nat} {w : Option (Nat × PLs)} (hl : LsLe a b) (hs : p_hst t k n a = some w) : ∃ pc' a' b', w = some (pc', a') ∧ p_hst t k n b = some (some (pc', b')) ∧ LsLe a' b' := by
  unfold p_hst at hs ⊢
  cases hv : p_st a k (vR none) with
  | none => rw [hv] at hs; cases hs
  | some a' =>
    rw [hv] at hs
    obtain ⟨b', hb, hl'⟩ := le_st hl hv
    rw [hb, ← hl.1]
    dsimp only at hs ⊢
    cases ht : Nat.blt k a.length with
    | false => rw [ht] at hs; cases hs
    | true =>
      rw [ht] at hs
      cases hs
      exact ⟨_, _, _, rfl, rfl, le_set hl' _ _⟩
theorem hnd_le {mi : Nat × Nat} {e : Nat} {w : Option (Nat × PLs)} (hl : LsLe a b) (hs : p_hnd mi pc e a = some w) : (w = none ∧ p_hnd mi pc e b = some none) ∨ ∃ pc' a' b', w = some (pc', a') ∧ p_hnd mi pc e b = some (some (pc', b')) ∧ LsLe a' b' := by
  unfold p_hnd at hs ⊢
  cases hv : p_vir mi pc with
  | false => rw [hv] at hs; cases hs
  | true =>
    rw [hv] at hs
    have hs : p_hnd0 mi pc e a = some w := hs
    show _ ∨ ∃ pc' a' b', w = some (pc', a') ∧ p_hnd0 mi pc e b = some (some (pc', b')) ∧ LsLe a' b'
    unfold p_hnd0 at hs ⊢
    cases hi : pm_inf mi with
    | none => rw [hi] at hs; cases hs
    | some inf =>
      obtain ⟨i1, i2, i3, i4, i5, i6, hh⟩ := inf
      rw [hi] at hs
      cases hh with
      | none =>
        cases hs
        exact Or.inl ⟨rfl, rfl⟩
      | some hh =>
        right
        dsimp only at hs ⊢
        unfold p_hnt at hs ⊢
        cases ht : p_hnds mi.1 pc e hh with
        | none => rw [ht] at hs; cases hs
        | some t =>
          rw [ht] at hs
          dsimp only at hs ⊢
          unfold p_hat at hs ⊢
          split at hs
          · exact hst_le hl hs
          · exact hst_le hl hs
          · cases hs
end
theorem run_forget : ∀ (n d : Nat) (mi : Nat × Nat) (pc : Nat) (a b : PLs) (st : List PV) (h : PM) (r : PO × PM), LsLe a b → pm_run n d mi (pc, a, st, h) = some r → pm_run n d mi (pc, b, st, h) = some r := by
  intro n
  induction n with
  | zero => intro d mi pc a b st h r _ hr; cases hr
  | succ n ih =>
    intro d mi pc a b st h r hl hr
    unfold pm_run at hr ⊢
    cases hs : pm_step mi (pc, a, st, h) with
    | none => rw [hs] at hr; cases hr
    | some q =>
      obtain ⟨q', hs', hq⟩ := step_le hl hs
      rw [hs] at hr
      rw [hs']
      rcases q with ⟨pc1, a1, st1, h1⟩ | ⟨mj, av, pc1, a1, st1, h1⟩ | r'
      · obtain ⟨b1, hl1, rfl⟩ := hq
        exact ih _ _ _ _ _ _ _ _ hl1 hr
      · obtain ⟨b1, hl1, rfl⟩ := hq
        cases d with
        | zero => cases hr
        | succ d =>
          dsimp only at hr ⊢
          cases hi : pm_inf mj with
          | none => rw [hi] at hr; cases hr
          | some inf =>
            obtain ⟨i1, i2, maxL, i4⟩ := inf
            rw [hi] at hr
            dsimp only at hr ⊢
            cases he : p_entry av maxL with
            | none => rw [he] at hr; cases hr
            | some ls0 =>
              rw [he] at hr
              dsimp only at hr ⊢
              cases hc : pm_run n d mj (0, ls0, [], h1) with
              | none => rw [hc] at hr; cases hr
              | some rc =>
                rw [hc] at hr
                obtain ⟨o, h2⟩ := rc
                cases o with
                | inl v => exact ih _ _ _ _ _ _ _ _ hl1 hr
                | inr e =>
                  dsimp only at hr ⊢
                  cases hh : p_hnd mi pc1 e a1 with
                  | none => rw [hh] at hr; cases hr
                  | some w =>
                    rw [hh] at hr
                    rcases hnd_le hl1 hh with ⟨rfl, g⟩ | ⟨pc', a', b', rfl, g, hl2⟩
                    · rw [g]; exact hr
                    · rw [g]; exact ih _ _ _ _ _ _ _ _ hl2 hr
      · have hq : q' = .inr (.inr r') := hq
        subst hq
        exact hr
/-- some locals forgotten -/
def fg (m : List Bool) (ls : PLs) : PLs := List.zipWith (fun b o => bif b then none else o) m ls
def p_okm : List Bool → PLs → Bool
  | [], [] => true
  | b :: m, o :: ls => (!b || !(p_isL (some o))) && p_okm m ls
  | _, _ => false
theorem fg_le : ∀ (m : List Bool) (ls : PLs), p_okm m ls = true → LsLe (fg m ls) ls
  | [], [], _ => ⟨rfl, fun _ _ h => h, fun _ => rfl⟩
  | b :: m, o :: ls, h => by
    have h : ((!b || !(p_isL (some o))) && p_okm m ls) = true := h
    obtain ⟨h1, h2⟩ := Bool.and_eq_true_iff.mp h
    obtain ⟨g1, g2, g3⟩ := fg_le m ls h2
    have e : fg (b :: m) (o :: ls) = (bif b then none else o) :: fg m ls := rfl
    rw [e]
    refine ⟨by rw [List.length_cons, List.length_cons, g1], fun i v hv => ?_, fun i => ?_⟩
    · cases i with
      | zero =>
        cases b with
        | true => cases hv
        | false => exact hv
      | succ i => exact g2 i v hv
    · cases i with
      | zero =>
        cases b with
        | true =>
          have h1 : (!(p_isL (some o))) = true := h1
          show p_isL (some o) = p_isL (some none)
          rw [Bool.not_eq_true'] at h1
          rw [h1]
          rfl
        | false => rfl
      | succ i => exact g3 i
  | [], _ :: _, h => nomatch h
  | _ :: _, [], h => nomatch h
theorem ev_forget {d pc : Nat} {mi : Nat × Nat} {r : PO × PM} {ls : PLs} {st : List PV} {h : PM} (m : List Bool) (hm : p_okm m ls = true) (k : Ev d mi (pc, fg m ls, st, h) r) : Ev d mi (pc, ls, st, h) r := by
  obtain ⟨n, k⟩ := k
  exact ⟨n, run_forget _ _ _ _ _ _ _ _ _ (fg_le m ls hm) k⟩
end
