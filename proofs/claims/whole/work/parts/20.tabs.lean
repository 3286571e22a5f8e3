/-! ===== the facts of the tables ===== -/
noncomputable section
theorem pl_find_mem {α : Type} : ∀ (l : List (Nat × α)) (j : Nat) (v : α), pl_find l j = some v → (j, v) ∈ l
  | [], _, _, h => nomatch h
  | (k, w) :: t, j, v, h => by
    have h : (bif Nat.beq k j then some w else pl_find t j) = some v := h
    cases hb : Nat.beq k j with
    | true =>
      rw [hb] at h
      have e : w = v := Option.some.inj h
      have e2 : k = j := Nat.eq_of_beq_eq_true hb
      rw [e, e2]
      exact List.mem_cons_self
    | false =>
      rw [hb] at h
      exact List.mem_cons_of_mem _ (pl_find_mem t j v h)
theorem bind_mem {α : Type} {t : List (List (Nat × α))} {oi ix : Nat} {v : α} (h : (pl_at t oi).bind (fun l => pl_find l ix) = some v) : ∃ l, pl_at t oi = some l ∧ (ix, v) ∈ l := by
  cases h1 : pl_at t oi with
  | none => rw [h1] at h; cases h
  | some l => rw [h1] at h; exact ⟨l, rfl, pl_find_mem l ix v h⟩
theorem pl_zip {α β : Type} : ∀ (s : List α) (t : List β) (i : Nat) (a : α) (b : β), pl_at s i = some a → pl_at t i = some b → (a, b) ∈ List.zip s t
  | [], _, _, _, _, h, _ => nomatch h
  | _ :: _, [], _, _, _, _, h => nomatch h
  | x :: s, y :: t, 0, a, b, h1, h2 => by cases h1; cases h2; exact List.mem_cons_self
  | x :: s, y :: t, i + 1, a, b, h1, h2 => List.mem_cons_of_mem _ (pl_zip s t i a b h1 h2)
theorem zip_at {α β : Type} : ∀ {s : List α} {t : List β} {i : Nat} {a : α} {b : β}, pl_at s i = some a → pl_at t i = some b → pl_at (List.zip s t) i = some (a, b)
  | [], _, _, _, _, h, _ => nomatch h
  | _ :: _, [], _, _, _, _, h => nomatch h
  | x :: s, y :: t, 0, a, b, h1, h2 => by cases h1; cases h2; rfl
  | x :: s, y :: t, i + 1, a, b, h1, h2 => zip_at (s := s) (t := t) (i := i) h1 h2
theorem in_f {w : Cond} (h : w ∈ ws_f) : w ∈ wsG := by unfold wsG; simp only [List.mem_append]; exact Or.inl h
theorem in_l {w : Cond} (h : w ∈ ws_l) : w ∈ wsG := by unfold wsG; simp only [List.mem_append]; exact Or.inr (Or.inl h)
theorem in_m {w : Cond} (h : w ∈ ws_m) : w ∈ wsG := by unfold wsG; simp only [List.mem_append]; exact Or.inr (Or.inr (Or.inl h))
theorem in_k {w : Cond} (h : w ∈ ws_k) : w ∈ wsG := by unfold wsG; simp only [List.mem_append]; exact Or.inr (Or.inr (Or.inr (Or.inl h)))
theorem in_n {w : Cond} (h : w ∈ ws_n) : w ∈ wsG := by unfold wsG; simp only [List.mem_append]; exact Or.inr (Or.inr (Or.inr (Or.inr (Or.inl h))))
theorem in_a {w : Cond} (h : w ∈ ws_a) : w ∈ wsG := by unfold wsG; simp only [List.mem_append]; exact Or.inr (Or.inr (Or.inr (Or.inr (Or.inr (Or.inl h)))))
theorem in_x {w : Cond} (h : w ∈ ws_x) : w ∈ wsG := by unfold wsG; simp only [List.mem_append]; exact Or.inr (Or.inr (Or.inr (Or.inr (Or.inr (Or.inr (Or.inl h))))))
theorem in_c {w : Cond} (h : w ∈ ws_c) : w ∈ wsG := by unfold wsG; simp only [List.mem_append]; exact Or.inr (Or.inr (Or.inr (Or.inr (Or.inr (Or.inr (Or.inr h))))))
/-! decode -/
theorem ckC_all : (pm_infs.zip pm_tabs).all (fun q => ckC q.1 q.2) = true := by
  unfold pm_infs pm_tabs
  simp only [List.zip_cons_cons, List.zip_nil_right, List.all_cons, List.all_nil, Bool.and_true, ckC_0, ckC_1, ckC_2, ckC_3, ckC_4, ckC_5, ckC_6, ckC_7, ckC_8, ckC_9, ckC_10, ckC_11, ckC_12, ckC_13, ckC_14, ckC_15, ckC_16, ckC_17, ckC_18, ckC_19]
theorem ckC_get : ∀ (s : List PInf) (t : List (List (List (Nat × Instr × Nat)))) (j : Nat) (inf : PInf) (tb : List (List (Nat × Instr × Nat))), ckC s t = true → pl_at s j = some inf → pl_at t j = some tb → ckD inf.2.1 tb = true
  | [], _, _, _, _, _, h, _ => nomatch h
  | _ :: _, [], _, _, _, _, _, h => nomatch h
  | a :: s, b :: t, 0, inf, tb, h, h1, h2 => by
    cases h1; cases h2
    unfold ckC at h
    exact (Bool.and_eq_true_iff.mp h).1
  | a :: s, b :: t, j + 1, inf, tb, h, h1, h2 => by
    unfold ckC at h
    exact ckC_get s t j inf tb (Bool.and_eq_true_iff.mp h).2 h1 h2
theorem tb_1 : ∀ mi inf pc i n, pm_inf mi = some inf → pm_code mi pc = some (i, n) → decode inf.2.1 pc = .ok (i, n) := by
  intro mi inf pc i n h1 h2
  unfold pm_inf at h1
  unfold pm_code pm_tab at h2
  cases e1 : pl_at pm_infs mi.1 with
  | none => rw [e1] at h1; cases h1
  | some li =>
    rw [e1] at h1
    have h1 : pl_at li mi.2 = some inf := h1
    cases e2 : pl_at pm_tabs mi.1 with
    | none => rw [e2] at h2; cases h2
    | some lt =>
      rw [e2] at h2
      have h2 : (pl_at ((pl_at lt mi.2).getD []) (pc / 32)).bind (fun l => pl_find l pc) = some (i, n) := h2
      cases e3 : pl_at lt mi.2 with
      | none => rw [e3] at h2; cases h2
      | some tb =>
        rw [e3] at h2
        have h2 : (pl_at tb (pc / 32)).bind (fun l => pl_find l pc) = some (i, n) := h2
        have hc := List.all_eq_true.mp ckC_all (li, lt) (pl_zip _ _ _ _ _ e1 e2)
        have hd := ckC_get li lt mi.2 inf tb hc h1 e3
        obtain ⟨l, g1, g2⟩ := bind_mem h2
        unfold ckD at hd
        have hd := List.all_eq_true.mp (List.all_eq_true.mp hd l (pl_at_mem _ _ _ g1)) _ g2
        exact of_decide_eq_true hd
/-! classes and fields -/
def tyK (T : u_T) (k : Nat) : FieldType := (parseFieldDescriptor (T k).2.2.1).getD .int
def ckCls (ci : Nat) (c : vw_C) : Bool := Nat.beq (fts ci).length c.2.2 && (List.range c.2.2).all (fun k => decide (parseFieldDescriptor (c.2.1 k).2.2.1 = some (tyK c.2.1 k)) && decide ((fts ci)[k]? = some (tyTag (tyK c.2.1 k))) && Nat.ble (tyTag (tyK c.2.1 k)) 3 && (Nat.beq ci 0 || !decide (tyK c.2.1 k = .byte)) &&
  (List.range c.2.2).all (fun b => Nat.beq k b || !decide ((c.2.1 k).2.1 = (c.2.1 b).2.1)))
theorem ckCls_all : (List.range 13).all (fun ci => match vwCl[ci]? with
    | some c => ckCls ci c
    | none => false) = true := by decide +kernel
theorem cls_ok {ci : Nat} {C : String} {T : u_T} {N : Nat} (h : vwCl[ci]? = some (C, T, N)) : CLS wsG ci C T N (tyK T) := by
  have hci : ci < 13 := (List.getElem?_eq_some_iff.mp h).1
  have hk := List.all_eq_true.mp ckCls_all ci (List.mem_range.mpr hci)
  rw [h] at hk
  have hk : ckCls ci (C, T, N) = true := hk
  unfold ckCls at hk
  obtain ⟨hk0, hk⟩ := Bool.and_eq_true_iff.mp hk
  have hk : ∀ k, k < N → _ := fun k hk9 => List.all_eq_true.mp hk k (List.mem_range.mpr hk9)
  refine ⟨h, fun w hw => in_l ?_, fun k hk9 => ?_, fun a ha b hb hab => ?_, Nat.eq_of_beq_eq_true hk0, fun k hk9 => ?_⟩
  · unfold ws_l
    exact List.mem_flatMap.mpr ⟨(C, T, N), List.mem_of_getElem? h, hw⟩
  · have := hk k hk9
    simp only [Bool.and_eq_true] at this
    exact of_decide_eq_true this.1.1.1.1
  · have := hk a ha
    simp only [Bool.and_eq_true] at this
    have := List.all_eq_true.mp this.2 b (List.mem_range.mpr hb)
    rcases Bool.or_eq_true_iff.mp this with z | z
    · exact absurd (Nat.eq_of_beq_eq_true z) hab
    · intro hq
      rw [decide_eq_true hq] at z
      cases z
  · have := hk k hk9
    simp only [Bool.and_eq_true] at this
    refine ⟨of_decide_eq_true this.1.1.1.2, Nat.le_of_ble_eq_true this.1.1.2, fun h0 hq => ?_⟩
    rcases Bool.or_eq_true_iff.mp this.1.2 with z | z
    · have := Nat.eq_of_beq_eq_true z
      omega
    · rw [decide_eq_true hq] at z
      cases z
def ckF (r : Nat × Nat × Nat × Nat × Bool) : Bool := match vwCl[r.2.1]? with
  | some c => Nat.blt r.2.2.1 c.2.2 && decide ((fts r.2.1)[r.2.2.1]? = some r.2.2.2.1) && decide ((c.2.1 r.2.2.1).2.2.2 = r.2.2.2.2) && (!r.2.2.2.2 || decide ((c.2.1 r.2.2.1).1 = c.1))
  | none => false
theorem ckF_all : pm_fls.all (fun l => l.all ckF) = true := by decide +kernel
theorem tb_2 : ∀ oi own ix ci k t fin, pl_at pm_own oi = some own → pm_fld oi ix = some (ci, k, t, fin) → FLD wsG own ix ci k t fin := by
  intro oi own ix ci k t fin ho h
  obtain ⟨l, g1, g2⟩ := bind_mem h
  have hc := List.all_eq_true.mp (List.all_eq_true.mp ckF_all l (pl_at_mem _ _ _ g1)) _ g2
  unfold ckF at hc
  cases e : vwCl[ci]? with
  | none =>
    have e' : vwCl[(ix, ci, k, t, fin).2.1]? = none := e
    rw [e'] at hc; cases hc
  | some c =>
    have e' : vwCl[(ix, ci, k, t, fin).2.1]? = some c := e
    rw [e'] at hc
    obtain ⟨C, T, N⟩ := c
    have hc : (Nat.blt k N && decide ((fts ci)[k]? = some t) && decide ((T k).2.2.2 = fin) && (!fin || decide ((T k).1 = C))) = true := hc
    simp only [Bool.and_eq_true] at hc
    obtain ⟨⟨⟨c1, c2⟩, c3⟩, c4⟩ := hc
    refine ⟨C, T, N, tyK T, cls_ok e, Nat.le_of_ble_eq_true c1, in_f ?_, of_decide_eq_true c2, of_decide_eq_true c3, fun hf => ?_⟩
    · unfold ws_f
      refine List.mem_flatMap.mpr ⟨(own, l), pl_zip _ _ _ _ _ ho g1, List.mem_flatMap.mpr ⟨(ix, ci, k, t, fin), g2, ?_⟩⟩
      show _ ∈ (match vwCl[ci]? with
        | some c => [Cond.fieldLink own ix (c.2.1 k).1 (c.2.1 k).2.1 (c.2.1 k).2.2.1]
        | none => [])
      rw [e]
      exact List.mem_cons_self
    · rw [hf] at c4
      exact of_decide_eq_true c4
def ckO (q : (String × List PInf) × Nat) : Bool := match q.1.2, vwCl[q.2]? with
  | inf :: _, some c => decide (inf.1.name = "<init>") && decide (c.1 = q.1.1)
  | _, _ => true
theorem ckO_all : (List.zip (List.zip pm_own pm_infs) pm_oci).all ckO = true := by decide +kernel
theorem oci_len {oi : Nat} {own : String} (h : pl_at pm_own oi = some own) : ∃ c, pl_at pm_oci oi = some c := by
  have key : ∀ (s : List String) (t : List Nat), s.length = t.length → ∀ (i : Nat) (a : String), pl_at s i = some a → ∃ c, pl_at t i = some c := by
    intro s
    induction s with
    | nil => intro t _ i a h; cases h
    | cons x s ih =>
      intro t hl i a h
      cases t with
      | nil => cases hl
      | cons y t => cases i with
        | zero => exact ⟨y, rfl⟩
        | succ i => exact ih t (Nat.succ.inj hl) i a h
  exact key pm_own pm_oci rfl oi own h
theorem tb_3 : ∀ mi inf own, pm_inf mi = some inf → pl_at pm_own mi.1 = some own → mi.2 = 0 → ∀ ci, (pl_at pm_oci mi.1).getD 99 = ci → ∀ C T N, vwCl[ci]? = some (C, T, N) → inf.1.name = "<init>" ∧ C = own := by
  intro mi inf own h1 ho h0 ci hci C T N hC
  obtain ⟨c9, hc9⟩ := oci_len ho
  rw [hc9] at hci
  have hci : c9 = ci := hci
  subst hci
  unfold pm_inf at h1
  cases e1 : pl_at pm_infs mi.1 with
  | none => rw [e1] at h1; cases h1
  | some li =>
    rw [e1] at h1
    have h1 : pl_at li mi.2 = some inf := h1
    rw [h0] at h1
    have hq := List.all_eq_true.mp ckO_all ((own, li), c9) (pl_zip _ _ _ _ _ (zip_at ho e1) hc9)
    cases li with
    | nil => cases h1
    | cons a t =>
      have h1 : some a = some inf := h1
      cases h1
      unfold ckO at hq
      have hC' : vwCl[((own, inf :: t), c9).2]? = some (C, T, N) := hC
      rw [hC'] at hq
      have hq : (decide (inf.1.name = "<init>") && decide (C = own)) = true := hq
      obtain ⟨q1, q2⟩ := Bool.and_eq_true_iff.mp hq
      exact ⟨of_decide_eq_true q1, of_decide_eq_true q2⟩
/-! constants -/
def ckK (t : Nat) (r : Nat × PV) : Bool := match r.2 with
  | .inl x => Nat.beq t 0 && decide ((p_I x).toInt = x)
  | .inr (.inl x) => Nat.beq t 1 && decide ((p_L x).toInt = x)
  | _ => false
theorem ckK_w : pm_cws.all (fun l => l.all (ckK 0)) = true := by decide +kernel
theorem ckK_2 : pm_c2s.all (fun l => l.all (ckK 1)) = true := by decide +kernel
theorem at_len {α β : Type} : ∀ (s : List α) (t : List β), s.length = t.length → ∀ (i : Nat) (a : α), pl_at s i = some a → ∃ c, pl_at t i = some c := by
  intro s
  induction s with
  | nil => intro t _ i a h; cases h
  | cons x s ih =>
    intro t hl i a h
    cases t with
    | nil => cases hl
    | cons y t => cases i with
      | zero => exact ⟨y, rfl⟩
      | succ i => exact ih t (Nat.succ.inj hl) i a h
theorem in_cst {oi : Nat} {own : String} {l1 l2 l3 : List (Nat × PV)} {w : Cond} (ho : pl_at pm_own oi = some own) (h1 : pl_at pm_css oi = some l1) (h2 : pl_at pm_cws oi = some l2) (h3 : pl_at pm_c2s oi = some l3) (hw : ∃ r, (r ∈ l1 ∨ r ∈ l2 ∨ r ∈ l3) ∧ w ∈ wcst own r) : w ∈ wsG := by
  apply in_a
  unfold ws_a
  refine List.mem_append.mpr (Or.inr (List.mem_append.mpr (Or.inl ?_)))
  refine List.mem_flatMap.mpr ⟨(own, l1, l2, l3), pl_zip _ _ _ _ _ ho (zip_at h1 (zip_at h2 h3)), ?_⟩
  obtain ⟨r, hr, hw⟩ := hw
  rcases hr with hr | hr | hr
  · exact List.mem_append.mpr (Or.inl (List.mem_flatMap.mpr ⟨r, hr, hw⟩))
  · exact List.mem_append.mpr (Or.inr (List.mem_append.mpr (Or.inl (List.mem_flatMap.mpr ⟨r, hr, hw⟩))))
  · exact List.mem_append.mpr (Or.inr (List.mem_append.mpr (Or.inr (List.mem_flatMap.mpr ⟨r, hr, hw⟩))))
theorem tb_4 : ∀ oi own ix v, pl_at pm_own oi = some own → pm_cstw oi ix = some v → ∃ x, v = vI x ∧ cnI x ∧ Cond.constant own ix (p_I x) ∈ wsG := by
  intro oi own ix v ho h
  obtain ⟨l, g1, g2⟩ := bind_mem h
  have hc := List.all_eq_true.mp (List.all_eq_true.mp ckK_w l (pl_at_mem _ _ _ g1)) _ g2
  obtain ⟨l1, e1⟩ := at_len pm_own pm_css rfl oi own ho
  obtain ⟨l3, e3⟩ := at_len pm_own pm_c2s rfl oi own ho
  rcases v with x | x | r
  · have hc : (Nat.beq 0 0 && decide ((p_I x).toInt = x)) = true := hc
    exact ⟨x, rfl, (of_decide_eq_true (Bool.and_eq_true_iff.mp hc).2 : (p_I x).toInt = x), in_cst ho e1 g1 e3 ⟨_, Or.inr (Or.inl g2), List.mem_cons_self⟩⟩
  · have hc : (Nat.beq 0 1 && decide ((p_L x).toInt = x)) = true := hc
    cases hc
  · cases hc
theorem tb_5 : ∀ oi own ix v, pl_at pm_own oi = some own → pm_cst2 oi ix = some v → ∃ x, v = vL x ∧ cnL x ∧ Cond.constantLong own ix (p_L x) ∈ wsG := by
  intro oi own ix v ho h
  obtain ⟨l, g1, g2⟩ := bind_mem h
  have hc := List.all_eq_true.mp (List.all_eq_true.mp ckK_2 l (pl_at_mem _ _ _ g1)) _ g2
  obtain ⟨l1, e1⟩ := at_len pm_own pm_css rfl oi own ho
  obtain ⟨l2, e2⟩ := at_len pm_own pm_cws rfl oi own ho
  rcases v with x | x | r
  · have hc : (Nat.beq 1 0 && decide ((p_I x).toInt = x)) = true := hc
    cases hc
  · have hc : (Nat.beq 1 1 && decide ((p_L x).toInt = x)) = true := hc
    exact ⟨x, rfl, (of_decide_eq_true (Bool.and_eq_true_iff.mp hc).2 : (p_L x).toInt = x), in_cst ho e1 e2 g1 ⟨_, Or.inr (Or.inr g2), List.mem_cons_self⟩⟩
  · cases hc
/-! new, anewarray -/
theorem ckA_all : pm_als.all (fun l => l.all (fun r => Nat.beq r.2 3 || Nat.beq r.2 4)) = true := by decide +kernel
theorem tb_6 : ∀ oi own ix kd, pl_at pm_own oi = some own → pm_newr oi ix = some kd → (kd = 3 ∧ Cond.classLink own ix "MapPieces$Piece" ∈ wsG) ∨ (kd = 4 ∧ Cond.classLink own ix "MapPieces$Ring" ∈ wsG) := by
  intro oi own ix kd ho h
  obtain ⟨l, g1, g2⟩ := bind_mem h
  have hc := List.all_eq_true.mp (List.all_eq_true.mp ckA_all l (pl_at_mem _ _ _ g1)) _ g2
  have hm : Cond.classLink own ix (if kd = 3 then "MapPieces$Piece" else "MapPieces$Ring") ∈ wsG := by
    apply in_n
    unfold ws_n
    refine List.mem_append.mpr (Or.inr (List.mem_append.mpr (Or.inl ?_)))
    exact List.mem_flatMap.mpr ⟨(own, l), pl_zip _ _ _ _ _ ho g1, List.mem_map.mpr ⟨(ix, kd), g2, rfl⟩⟩
  rcases Bool.or_eq_true_iff.mp hc with z | z
  · have z : kd = 3 := Nat.eq_of_beq_eq_true z
    subst z
    exact Or.inl ⟨rfl, hm⟩
  · have z : kd = 4 := Nat.eq_of_beq_eq_true z
    subst z
    exact Or.inr ⟨rfl, hm⟩
def ckN (r : Nat × Nat × Nat × Nat) : Bool := match r.2.1 with
  | 0 => Nat.blt 0 r.2.2.1 && (match vwCl[r.2.2.1]? with
    | some c => Nat.beq c.2.2 r.2.2.2
    | none => false)
  | _ => true
theorem ckN_all : pm_cls.all (fun l => l.all ckN) = true := by decide +kernel
theorem tb_7 : ∀ oi own ix ci N, pl_at pm_own oi = some own → pm_newc oi ix = some (0, ci, N) → 0 < ci ∧ ∃ C T ty, CLS wsG ci C T N ty ∧ Cond.classLink own ix C ∈ wsG ∧ Cond.instantiable C N ∈ wsG ∧ Cond.initialized C ∈ wsG := by
  intro oi own ix ci N ho h
  obtain ⟨l, g1, g2⟩ := bind_mem h
  have hc := List.all_eq_true.mp (List.all_eq_true.mp ckN_all l (pl_at_mem _ _ _ g1)) _ g2
  have hc : (Nat.blt 0 ci && (match vwCl[ci]? with
    | some c => Nat.beq c.2.2 N
    | none => false)) = true := hc
  obtain ⟨c1, c2⟩ := Bool.and_eq_true_iff.mp hc
  refine ⟨Nat.le_of_ble_eq_true c1, ?_⟩
  cases e : vwCl[ci]? with
  | none => rw [e] at c2; cases c2
  | some c =>
    rw [e] at c2
    obtain ⟨C, T, N'⟩ := c
    have c2 : N' = N := Nat.eq_of_beq_eq_true c2
    subst c2
    have hm : ∀ w ∈ [Cond.classLink own ix C, Cond.instantiable C N', Cond.initialized C], w ∈ wsG := by
      intro w hw
      apply in_n
      unfold ws_n
      refine List.mem_append.mpr (Or.inl ?_)
      refine List.mem_flatMap.mpr ⟨(own, l), pl_zip _ _ _ _ _ ho g1, List.mem_flatMap.mpr ⟨(ix, 0, ci, N'), g2, ?_⟩⟩
      show w ∈ (match vwCl[ci]? with
        | some c => [Cond.classLink own ix c.1, .instantiable c.1 N', .initialized c.1]
        | none => [])
      rw [e]
      exact hw
    exact ⟨C, T, tyK T, cls_ok e, hm _ List.mem_cons_self, hm _ (List.mem_cons_of_mem _ List.mem_cons_self), hm _ (List.mem_cons_of_mem _ (List.mem_cons_of_mem _ List.mem_cons_self))⟩
theorem tb_ok : TB := ⟨tb_1, tb_2, tb_3, tb_4, tb_5, tb_6, tb_7, in_a List.mem_cons_self, in_a (List.mem_cons_of_mem _ List.mem_cons_self), in_a (List.mem_cons_of_mem _ (List.mem_cons_of_mem _ List.mem_cons_self))⟩
/-! links -/
def ckI (own : String) (inf : PInf) : Bool := plainName inf.1.cls && !decide (inf.1.cls = "java/lang/invoke/MethodHandle") && !decide (inf.1.cls = "java/lang/invoke/VarHandle") && decide ((parseMethodDescriptor inf.1.desc).map (fun d => d.parameters.length) = some inf.2.2.2.2.2.1) && Nat.ble inf.2.2.1 41 && decide (inf.1.cls = own)
theorem ckI_all : (z_own pm_infs).all (fun q => q.2.all (ckI q.1)) = true := by decide +kernel
def RKb (rk : Nat) (C : String) : Bool := (Nat.beq rk 6 && decide (C = "java/lang/String")) || (Nat.ble 10 rk && (match vwCl[rk - 10]? with
  | some c => decide (c.1 = C)
  | none => false))
theorem RKb_ok {rk : Nat} {C : String} (h : RKb rk C = true) : RK rk C := by
  unfold RKb at h
  rcases Bool.or_eq_true_iff.mp h with z | z
  · obtain ⟨z1, z2⟩ := Bool.and_eq_true_iff.mp z
    exact Or.inl ⟨Nat.eq_of_beq_eq_true z1, of_decide_eq_true z2⟩
  · obtain ⟨z1, z2⟩ := Bool.and_eq_true_iff.mp z
    cases e : vwCl[rk - 10]? with
    | none => rw [e] at z2; cases z2
    | some c =>
      rw [e] at z2
      obtain ⟨C', T, N⟩ := c
      have z2 : C' = C := of_decide_eq_true z2
      subst z2
      have := Nat.le_of_ble_eq_true z1
      exact Or.inr ⟨rk - 10, T, N, by omega, e⟩
def ckL (r : Nat × Nat × Nat × Nat × Nat) : Bool := match r.2.1, pm_inf (r.2.2.1, r.2.2.2.1) with
  | 0, some inf => inf.2.2.2.2.2.2.isNone && RKb r.2.2.2.2 inf.1.cls && !(Nat.beq r.2.2.1 13 && Nat.beq r.2.2.2.1 30)
  | 1, some inf => inf.2.2.2.2.2.2.isNone && (Nat.beq r.2.2.2.2 0 || Nat.beq r.2.2.2.2 1) && !(Nat.beq r.2.2.1 13 && Nat.beq r.2.2.2.1 30)
  | 2, some inf => inf.2.2.2.2.2.2.isSome && !(Nat.beq r.2.2.1 13 && Nat.beq r.2.2.2.1 30)
  | 3, some inf => decide (inf.1.name = "<init>") && decide (inf.2.2.2.1 = none) && inf.2.2.2.2.2.2.isNone && RKb r.2.2.2.2 inf.1.cls && !(Nat.beq r.2.2.1 13 && Nat.beq r.2.2.2.1 30)
  | 4, some inf => decide (inf.1.name = "<init>") && decide (inf.2.2.2.1 = none) && inf.2.2.2.2.2.2.isNone && RKb r.2.2.2.2 inf.1.cls && !(Nat.beq r.2.2.1 13 && Nat.beq r.2.2.2.1 30)
  | 5, _ => true
  | 6, _ => true
  | 7, _ => true
  | 8, _ => true
  | 9, _ => true
  | _, _ => false
theorem ckL_all : pm_mls.all (fun l => l.all ckL) = true := by decide +kernel
theorem pl_at_lt {α : Type} : ∀ (l : List α) (n : Nat) (a : α), pl_at l n = some a → n < l.length
  | [], _, _, h => nomatch h
  | _ :: _, 0, _, _ => Nat.succ_pos _
  | _ :: t, n + 1, a, h => Nat.succ_lt_succ (pl_at_lt t n a h)
theorem pl_at_take {α : Type} : ∀ (l : List α) (m n : Nat), n < m → pl_at (l.take m) n = pl_at l n
  | [], m, n, _ => by rw [List.take_nil]
  | _ :: _, 0, _, h => absurd h (Nat.not_lt_zero _)
  | _ :: _, m + 1, 0, _ => rfl
  | _ :: t, m + 1, n + 1, h => pl_at_take t m n (Nat.lt_of_succ_lt_succ h)
theorem inf_at {a b : Nat} {inf : PInf} (h : pm_inf (a, b) = some inf) : ∃ li, pl_at pm_infs a = some li ∧ pl_at li b = some inf := by
  unfold pm_inf at h
  cases e : pl_at pm_infs a with
  | none =>
    have e' : pl_at pm_infs (a, b).1 = none := e
    rw [e'] at h; cases h
  | some li =>
    have e' : pl_at pm_infs (a, b).1 = some li := e
    rw [e'] at h
    exact ⟨li, rfl, h⟩
theorem inf_own {a b : Nat} {inf : PInf} (h : pm_inf (a, b) = some inf) : ∃ own, pl_at pm_own a = some own ∧ ckI own inf = true := by
  obtain ⟨li, e1, e2⟩ := inf_at h
  obtain ⟨own, ho⟩ := at_len pm_infs pm_own rfl a li e1
  exact ⟨own, ho, List.all_eq_true.mp (List.all_eq_true.mp ckI_all (own, li) (pl_zip _ _ _ _ _ ho e1)) inf (pl_at_mem _ _ _ e2)⟩
theorem len13 : ((pl_at pm_infs 13).getD []).length = 31 := by decide +kernel
theorem mc_ok {a b : Nat} {inf : PInf} (h : pm_inf (a, b) = some inf) (hn : ¬ (a = 13 ∧ b = 30)) : MC inf := by
  obtain ⟨own, ho, hc⟩ := inf_own h
  obtain ⟨li, e1, e2⟩ := inf_at h
  unfold ckI at hc
  simp only [Bool.and_eq_true] at hc
  obtain ⟨⟨⟨⟨⟨c1, c2⟩, c3⟩, c4⟩, c5⟩, c6⟩ := hc
  have c6 := of_decide_eq_true c6
  refine ⟨c1, fun hq => ?_, fun hq => ?_, of_decide_eq_true c4, in_m ?_, in_c ?_, Nat.le_of_ble_eq_true c5⟩
  · rw [decide_eq_true hq] at c2; cases c2
  · rw [decide_eq_true hq] at c3; cases c3
  · unfold ws_m
    rw [c6]
    exact List.mem_map.mpr ⟨own, pl_at_mem _ _ _ ho, rfl⟩
  · unfold ws_c
    have ha : a < 20 := pl_at_lt _ _ _ e1
    refine List.mem_flatMap.mpr ⟨a, List.mem_range.mpr ha, List.mem_map.mpr ⟨inf, ?_, rfl⟩⟩
    unfold pm_infc
    by_cases h13 : a = 13
    · subst h13
      rw [if_pos rfl]
      have hb : b < 31 := by
        have := pl_at_lt _ _ _ e2
        have h9 := len13
        rw [e1] at h9
        have h9 : li.length = 31 := h9
        omega
      rw [e1]
      show inf ∈ li.take 30
      refine pl_at_mem _ b _ ?_
      rw [pl_at_take _ _ _ (by omega)]
      exact e2
    · rw [if_neg h13, e1]
      exact pl_at_mem _ _ _ e2
theorem nlaw {a b : Nat} (h : (!(Nat.beq a 13 && Nat.beq b 30)) = true) : ¬ (a = 13 ∧ b = 30) := by
  rintro ⟨rfl, rfl⟩
  cases h
theorem isn {α : Type} {o : Option α} (h : o.isNone = true) : o = none := by
  cases o with
  | none => rfl
  | some _ => cases h
theorem tm_1 : ∀ oi own ix k a b rk, pl_at pm_own oi = some own → pm_mth oi ix = some (k, a, b, rk) → k ≤ 4 → ∃ inf, pm_inf (a, b) = some inf ∧ MC inf ∧ LK k own ix inf rk := by
  intro oi own ix k a b rk ho h hk
  obtain ⟨l, g1, g2⟩ := bind_mem h
  have hc := List.all_eq_true.mp (List.all_eq_true.mp ckL_all l (pl_at_mem _ _ _ g1)) _ g2
  have hin : ∀ w, w ∈ (match (generalizing := false) k, pm_inf (a, b) with
      | 0, some inf => [Cond.methodLink own ix inf.1, .instanceMethod inf.1, .selects inf.1.cls inf.1 inf.1]
      | 1, some inf => (match (generalizing := false) rk with
        | 0 => [.methodLink own ix inf.1, .static inf.1]
        | _ => [.static inf.1])
      | 2, some inf => [.methodLink own ix inf.1, .static inf.1]
      | 3, some inf => [.methodLink own ix inf.1, .instanceMethod inf.1]
      | 4, some inf => [.instanceMethod inf.1]
      | 5, _ => [.methodLink own ix objectInit]
      | 6, _ => [.methodLink own ix arraycopyName]
      | 8, _ => [.methodLink own ix Lib.Math.max.name]
      | 9, _ => [.methodLink own ix Lib.Math.min.name]
      | _, _ => []) → w ∈ wsG := by
    intro w hw
    apply in_k
    unfold ws_k
    exact List.mem_append.mpr (Or.inl (List.mem_flatMap.mpr ⟨(own, l), pl_zip _ _ _ _ _ ho g1, List.mem_flatMap.mpr ⟨(ix, k, a, b, rk), g2, hw⟩⟩))
  unfold ckL at hc
  dsimp only at hc
  cases hi : pm_inf (a, b) with
  | none =>
    rw [hi] at hc
    match k, hk, hc with
    | 0, _, hc => cases hc
    | 1, _, hc => cases hc
    | 2, _, hc => cases hc
    | 3, _, hc => cases hc
    | 4, _, hc => cases hc
    | k + 5, hk, _ => omega
  | some inf =>
    rw [hi] at hc hin
    refine ⟨inf, rfl, ?_⟩
    match k, hk, hc, hin with
    | 0, _, hc, hin =>
      have hc : (inf.2.2.2.2.2.2.isNone && RKb rk inf.1.cls && !(Nat.beq a 13 && Nat.beq b 30)) = true := hc
      simp only [Bool.and_eq_true] at hc
      obtain ⟨⟨c1, c2⟩, c3⟩ := hc
      have c3 : (!(Nat.beq a 13 && Nat.beq b 30)) = true := c3
      exact ⟨mc_ok hi (nlaw c3), Or.inl ⟨rfl, hin _ List.mem_cons_self, hin _ (List.mem_cons_of_mem _ List.mem_cons_self), hin _ (List.mem_cons_of_mem _ (List.mem_cons_of_mem _ List.mem_cons_self)), isn c1, RKb_ok c2⟩⟩
    | 1, _, hc, hin =>
      have hc : (inf.2.2.2.2.2.2.isNone && (Nat.beq rk 0 || Nat.beq rk 1) && !(Nat.beq a 13 && Nat.beq b 30)) = true := hc
      obtain ⟨hc, c3⟩ := Bool.and_eq_true_iff.mp hc
      obtain ⟨c1, c2⟩ := Bool.and_eq_true_iff.mp hc
      refine ⟨mc_ok hi (nlaw c3), Or.inr (Or.inl ⟨rfl, ?_⟩)⟩
      rcases Bool.or_eq_true_iff.mp c2 with z | z
      · have z : rk = 0 := Nat.eq_of_beq_eq_true z
        subst z
        exact ⟨Or.inl (hin _ List.mem_cons_self), hin _ (List.mem_cons_of_mem _ List.mem_cons_self), isn c1⟩
      · have z : rk = 1 := Nat.eq_of_beq_eq_true z
        subst z
        exact ⟨Or.inr rfl, hin _ List.mem_cons_self, isn c1⟩
    | 2, _, hc, hin =>
      have hc : (inf.2.2.2.2.2.2.isSome && !(Nat.beq a 13 && Nat.beq b 30)) = true := hc
      obtain ⟨c1, c3⟩ := Bool.and_eq_true_iff.mp hc
      exact ⟨mc_ok hi (nlaw c3), Or.inr (Or.inr (Or.inl ⟨rfl, hin _ List.mem_cons_self, hin _ (List.mem_cons_of_mem _ List.mem_cons_self), Option.isSome_iff_exists.mp c1⟩))⟩
    | 3, _, hc, hin =>
      have hc : (decide (inf.1.name = "<init>") && decide (inf.2.2.2.1 = none) && inf.2.2.2.2.2.2.isNone && RKb rk inf.1.cls && !(Nat.beq a 13 && Nat.beq b 30)) = true := hc
      obtain ⟨hc, c5⟩ := Bool.and_eq_true_iff.mp hc
      obtain ⟨hc, c4⟩ := Bool.and_eq_true_iff.mp hc
      obtain ⟨hc, c3⟩ := Bool.and_eq_true_iff.mp hc
      obtain ⟨c1, c2⟩ := Bool.and_eq_true_iff.mp hc
      exact ⟨mc_ok hi (nlaw c5), Or.inr (Or.inr (Or.inr (Or.inl ⟨rfl, hin _ List.mem_cons_self, hin _ (List.mem_cons_of_mem _ List.mem_cons_self), of_decide_eq_true c1, of_decide_eq_true c2, isn c3, RKb_ok c4⟩)))⟩
    | 4, _, hc, hin =>
      have hc : (decide (inf.1.name = "<init>") && decide (inf.2.2.2.1 = none) && inf.2.2.2.2.2.2.isNone && RKb rk inf.1.cls && !(Nat.beq a 13 && Nat.beq b 30)) = true := hc
      obtain ⟨hc, c5⟩ := Bool.and_eq_true_iff.mp hc
      obtain ⟨hc, c4⟩ := Bool.and_eq_true_iff.mp hc
      obtain ⟨hc, c3⟩ := Bool.and_eq_true_iff.mp hc
      obtain ⟨c1, c2⟩ := Bool.and_eq_true_iff.mp hc
      exact ⟨mc_ok hi (nlaw c5), Or.inr (Or.inr (Or.inr (Or.inr ⟨rfl, hin _ List.mem_cons_self, of_decide_eq_true c1, of_decide_eq_true c2, isn c3, RKb_ok c4⟩)))⟩
    | k + 5, hk, _, _ => omega
theorem in_k5 {oi ix a b rk : Nat} {own : String} (ho : pl_at pm_own oi = some own) (h : pm_mth oi ix = some (5, a, b, rk)) : Cond.methodLink own ix objectInit ∈ wsG := by
  obtain ⟨l, g1, g2⟩ := bind_mem h
  apply in_k
  unfold ws_k
  refine List.mem_append.mpr (Or.inl (List.mem_flatMap.mpr ⟨(own, l), pl_zip _ _ _ _ _ ho g1, List.mem_flatMap.mpr ⟨(ix, 5, a, b, rk), g2, ?_⟩⟩))
  dsimp only
  cases pm_inf (a, b) <;> exact List.mem_cons_self
theorem in_k6 {oi ix a b rk : Nat} {own : String} (ho : pl_at pm_own oi = some own) (h : pm_mth oi ix = some (6, a, b, rk)) : Cond.methodLink own ix arraycopyName ∈ wsG := by
  obtain ⟨l, g1, g2⟩ := bind_mem h
  apply in_k
  unfold ws_k
  refine List.mem_append.mpr (Or.inl (List.mem_flatMap.mpr ⟨(own, l), pl_zip _ _ _ _ _ ho g1, List.mem_flatMap.mpr ⟨(ix, 6, a, b, rk), g2, ?_⟩⟩))
  dsimp only
  cases pm_inf (a, b) <;> exact List.mem_cons_self
theorem in_k8 {oi ix a b rk : Nat} {own : String} (ho : pl_at pm_own oi = some own) (h : pm_mth oi ix = some (8, a, b, rk)) : Cond.methodLink own ix Lib.Math.max.name ∈ wsG := by
  obtain ⟨l, g1, g2⟩ := bind_mem h
  apply in_k
  unfold ws_k
  refine List.mem_append.mpr (Or.inl (List.mem_flatMap.mpr ⟨(own, l), pl_zip _ _ _ _ _ ho g1, List.mem_flatMap.mpr ⟨(ix, 8, a, b, rk), g2, ?_⟩⟩))
  dsimp only
  cases pm_inf (a, b) <;> exact List.mem_cons_self
theorem in_k9 {oi ix a b rk : Nat} {own : String} (ho : pl_at pm_own oi = some own) (h : pm_mth oi ix = some (9, a, b, rk)) : Cond.methodLink own ix Lib.Math.min.name ∈ wsG := by
  obtain ⟨l, g1, g2⟩ := bind_mem h
  apply in_k
  unfold ws_k
  refine List.mem_append.mpr (Or.inl (List.mem_flatMap.mpr ⟨(own, l), pl_zip _ _ _ _ _ ho g1, List.mem_flatMap.mpr ⟨(ix, 9, a, b, rk), g2, ?_⟩⟩))
  dsimp only
  cases pm_inf (a, b) <;> exact List.mem_cons_self
theorem in_kx {w : Cond} (h : w ∈ [Cond.instanceMethod objectInit, .code objectInit ⟨#[0xb1]⟩ 1 none, .native arraycopyName, .static arraycopyName, .initialized "java/lang/System", .static Lib.Math.max.name, .code Lib.Math.max.name Lib.Math.max.code 2 (some .int), .static Lib.Math.min.name, .code Lib.Math.min.name Lib.Math.min.code 2 (some .int)]) : w ∈ wsG := by
  apply in_k
  unfold ws_k
  exact List.mem_append.mpr (Or.inr h)
theorem tm_ok : TM := ⟨tm_1, fun _ _ _ _ _ _ ho h => in_k5 ho h, (in_kx List.mem_cons_self), (in_kx (List.mem_cons_of_mem _ List.mem_cons_self)), fun _ _ _ _ _ _ ho h => in_k6 ho h, (in_kx (List.mem_cons_of_mem _ (List.mem_cons_of_mem _ List.mem_cons_self))), (in_kx (List.mem_cons_of_mem _ (List.mem_cons_of_mem _ (List.mem_cons_of_mem _ List.mem_cons_self)))), (in_kx (List.mem_cons_of_mem _ (List.mem_cons_of_mem _ (List.mem_cons_of_mem _ (List.mem_cons_of_mem _ List.mem_cons_self))))), fun _ _ _ _ _ _ ho h => in_k8 ho h, fun _ _ _ _ _ _ ho h => in_k9 ho h, in_m (by unfold ws_m; exact List.mem_map.mpr ⟨"java/lang/Math", pl_at_mem _ 18 _ rfl, rfl⟩), (in_kx (List.mem_cons_of_mem _ (List.mem_cons_of_mem _ (List.mem_cons_of_mem _ (List.mem_cons_of_mem _ (List.mem_cons_of_mem _ List.mem_cons_self)))))), (in_kx (List.mem_cons_of_mem _ (List.mem_cons_of_mem _ (List.mem_cons_of_mem _ (List.mem_cons_of_mem _ (List.mem_cons_of_mem _ (List.mem_cons_of_mem _ List.mem_cons_self))))))), (in_kx (List.mem_cons_of_mem _ (List.mem_cons_of_mem _ (List.mem_cons_of_mem _ (List.mem_cons_of_mem _ (List.mem_cons_of_mem _ (List.mem_cons_of_mem _ (List.mem_cons_of_mem _ List.mem_cons_self)))))))), (in_kx (List.mem_cons_of_mem _ (List.mem_cons_of_mem _ (List.mem_cons_of_mem _ (List.mem_cons_of_mem _ (List.mem_cons_of_mem _ (List.mem_cons_of_mem _ (List.mem_cons_of_mem _ (List.mem_cons_of_mem _ List.mem_cons_self)))))))))⟩
/-! exceptions -/
def xnames : List String := ["java/lang/RuntimeException", "java/lang/Exception"]
def exOK (own : String) (ik ic ex : Nat) : Bool := match pl_at pm_exs ex with
  | some E => Bundle.fit E && xnames.all Bundle.fit && (vx_at0 own ic E xnames).all (fun w => decide (w ∈ ws_x) || (decide (w = .castable E E) || xsup.any (fun Y => decide (w = .declares (Bundle.init0 Y))))) && (Cond.classLink own ik E :: Cond.initialized E :: vx_at0 own ic E xnames).all vx_ot
  | none => false
theorem ckX_all : (List.zip pm_own (List.zip pm_cls pm_mls)).all (fun o => o.2.1.all (fun r => !(Nat.beq r.2.1 1) || o.2.2.all (fun q => !(Nat.beq q.2.1 7) || !(Nat.beq q.2.2.1 r.2.2.1) || exOK o.1 r.1 q.1 r.2.2.1))) = true := by decide +kernel
theorem tx_1 : ∀ oi own ik ex x ic y z, pl_at pm_own oi = some own → pm_newc oi ik = some (1, ex, x) → pm_mth oi ic = some (7, ex, y, z) → ∃ E names, pl_at pm_exs ex = some E ∧ Bundle.fit E = true ∧ (∀ n ∈ names, Bundle.fit n = true) ∧ names.length ≤ 4 ∧ Cond.classLink own ik E ∈ wsG ∧ Cond.initialized E ∈ wsG ∧
    (∀ w ∈ vx_at0 own ic E names, w ∈ wsG ∨ w = .castable E E ∨ ∃ Y ∈ xsup, w = .declares (Bundle.init0 Y)) ∧ (∀ w ∈ Cond.classLink own ik E :: Cond.initialized E :: vx_at0 own ic E names, vx_ot w = true) := by
  intro oi own ik ex x ic y z ho h1 h2
  obtain ⟨l1, g1, g2⟩ := bind_mem h1
  obtain ⟨l2, g3, g4⟩ := bind_mem h2
  have hc := List.all_eq_true.mp ckX_all (own, l1, l2) (pl_zip _ _ _ _ _ ho (zip_at g1 g3))
  have hc := List.all_eq_true.mp hc _ g2
  have hc : (!(Nat.beq 1 1) || l2.all (fun q => !(Nat.beq q.2.1 7) || !(Nat.beq q.2.2.1 ex) || exOK own ik q.1 ex)) = true := hc
  have hc : l2.all (fun q => !(Nat.beq q.2.1 7) || !(Nat.beq q.2.2.1 ex) || exOK own ik q.1 ex) = true := hc
  have hc := List.all_eq_true.mp hc _ g4
  have hc : (!(Nat.beq 7 7) || !(Nat.beq ex ex) || exOK own ik ic ex) = true := hc
  rw [Nat.beq_refl, Nat.beq_refl] at hc
  have hc : exOK own ik ic ex = true := hc
  unfold exOK at hc
  cases e : pl_at pm_exs ex with
  | none => rw [e] at hc; cases hc
  | some E =>
    rw [e] at hc
    have hc : (Bundle.fit E && xnames.all Bundle.fit && (vx_at0 own ic E xnames).all (fun w => decide (w ∈ ws_x) || (decide (w = .castable E E) || xsup.any (fun Y => decide (w = .declares (Bundle.init0 Y))))) && (Cond.classLink own ik E :: Cond.initialized E :: vx_at0 own ic E xnames).all vx_ot) = true := hc
    obtain ⟨hc, c4⟩ := Bool.and_eq_true_iff.mp hc
    obtain ⟨hc, c3⟩ := Bool.and_eq_true_iff.mp hc
    obtain ⟨c1, c2⟩ := Bool.and_eq_true_iff.mp hc
    have hm : ∀ w ∈ [Cond.classLink own ik E, Cond.initialized E], w ∈ wsG := by
      intro w hw
      apply in_n
      unfold ws_n
      refine List.mem_append.mpr (Or.inl ?_)
      refine List.mem_flatMap.mpr ⟨(own, l1), pl_zip _ _ _ _ _ ho g1, List.mem_flatMap.mpr ⟨(ik, 1, ex, x), g2, ?_⟩⟩
      show w ∈ (match pl_at pm_exs ex with
        | some E => [Cond.classLink own ik E, .initialized E]
        | none => [])
      rw [e]
      exact hw
    refine ⟨E, xnames, rfl, c1, List.all_eq_true.mp c2, by decide, hm _ List.mem_cons_self, hm _ (List.mem_cons_of_mem _ List.mem_cons_self), fun w hw => ?_, List.all_eq_true.mp c4⟩
    rcases Bool.or_eq_true_iff.mp (List.all_eq_true.mp c3 w hw) with z | z
    · exact Or.inl (in_x (of_decide_eq_true z))
    · rcases Bool.or_eq_true_iff.mp z with z | z
      · exact Or.inr (Or.inl (of_decide_eq_true z))
      · obtain ⟨Y, hY, z⟩ := List.any_eq_true.mp z
        exact Or.inr (Or.inr ⟨Y, hY, of_decide_eq_true z⟩)
theorem ckY_all : pm_xcs.all (fun l => l.all (fun r => !(Nat.beq r.1 0) && (pl_at pm_exs r.2).isSome)) = true := by decide +kernel
theorem tx_2 : ∀ oi own ct ex, pl_at pm_own oi = some own → (pl_at pm_xcs oi).bind (fun l => pl_find l ct) = some ex → ct ≠ 0 ∧ ∃ E, pl_at pm_exs ex = some E ∧ Cond.classLink own ct E ∈ wsG := by
  intro oi own ct ex ho h
  obtain ⟨l, g1, g2⟩ := bind_mem h
  have hc := List.all_eq_true.mp (List.all_eq_true.mp ckY_all l (pl_at_mem _ _ _ g1)) _ g2
  obtain ⟨c1, c2⟩ := Bool.and_eq_true_iff.mp hc
  refine ⟨fun hq => ?_, ?_⟩
  · subst hq; cases c1
  · obtain ⟨E, hE⟩ := Option.isSome_iff_exists.mp c2
    have hE : pl_at pm_exs ex = some E := hE
    refine ⟨E, hE, in_n ?_⟩
    unfold ws_n
    refine List.mem_append.mpr (Or.inr (List.mem_append.mpr (Or.inr ?_)))
    refine List.mem_flatMap.mpr ⟨(own, l), pl_zip _ _ _ _ _ ho g1, List.mem_flatMap.mpr ⟨(ct, ex), g2, ?_⟩⟩
    show _ ∈ (match pl_at pm_exs ex with
      | some E => [Cond.classLink own ct E]
      | none => [])
    rw [hE]
    exact List.mem_cons_self
theorem ckH_all : (List.zip pm_xcs pm_infs).all (fun o => o.2.all (fun inf => match inf.2.2.2.2.2.2 with
    | some hh => hh.all (fun q => (pl_find o.1 q.2.2.2).isSome)
    | none => true)) = true := by decide +kernel
theorem tx_3 : ∀ mi inf hh, pm_inf mi = some inf → inf.2.2.2.2.2.2 = some hh → ∀ q ∈ hh, ∃ ex, (pl_at pm_xcs mi.1).bind (fun l => pl_find l q.2.2.2) = some ex := by
  intro mi inf hh h1 h2 q hq
  obtain ⟨li, e1, e2⟩ := inf_at (a := mi.1) (b := mi.2) h1
  obtain ⟨lx, e3⟩ := at_len pm_infs pm_xcs rfl mi.1 li e1
  have hc := List.all_eq_true.mp (List.all_eq_true.mp ckH_all (lx, li) (pl_zip _ _ _ _ _ e3 e1)) inf (pl_at_mem _ _ _ e2)
  rw [h2] at hc
  have hc : hh.all (fun q => (pl_find lx q.2.2.2).isSome) = true := hc
  obtain ⟨ex, hx⟩ := Option.isSome_iff_exists.mp (List.all_eq_true.mp hc q hq)
  refine ⟨ex, ?_⟩
  rw [e3]
  exact hx
theorem tx_4 : ∀ mi inf, pm_inf mi = some inf → pl_at pm_own mi.1 = some inf.1.cls := by
  intro mi inf h
  obtain ⟨own, ho, hc⟩ := inf_own (a := mi.1) (b := mi.2) h
  unfold ckI at hc
  rw [of_decide_eq_true (Bool.and_eq_true_iff.mp hc).2]
  exact ho
theorem tx_ok : TX := ⟨tx_1, tx_2, tx_3, tx_4⟩
end
