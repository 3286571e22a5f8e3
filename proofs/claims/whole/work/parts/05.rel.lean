/-! ===== the pure machine's heap and the machine's ===== -/
noncomputable section
/-- a value, by the map of numbers to addresses (kind 8: a reference or null, of which nothing is known) -/
def tv (ad : Nat → Nat) (v : PV) : Value := match v with
  | .inl x => .int (p_I x)
  | .inr (.inl x) => .long (p_L x)
  | .inr (.inr none) => .null
  | .inr (.inr (some (kd, _, a))) => if kd = 8 then (match ad a with
    | 0 => .null
    | q + 1 => .ref q) else .ref (ad a)
def m_kd (h : PM) (i : Nat) : Nat := (h.2.2.1 i).1
def m_ln (h : PM) (i : Nat) : Nat := (h.2.2.1 i).2
def m_sz (h : PM) : Nat := h.2.2.2.1
def m_ce (h : PM) : Nat := h.2.2.2.2.1
def m_sl (h : PM) : Nat := h.2.2.2.2.2
def fv (ad : Nat → Nat) (h : PM) (i t k : Nat) : Value := if t = 2 then .long (p_L (h.1 i k)) else if t = 3 then tv ad (vR (h.2.1 i k)) else .int (p_I (h.1 i k))
def fvs (ad : Nat → Nat) (h : PM) (i : Nat) : List Nat → Nat → List Value
  | [], _ => []
  | t :: ts, k => fv ad h i t k :: fvs ad h i ts (k + 1)
def fts (ci : Nat) : List Nat := (pl_at pm_fts ci).getD []
def rfa (ad : Nat → Nat) (r : Rf) : Option Nat := match r with
  | none => none
  | some (kd, _, a) => if kd = 8 then (match ad a with
    | 0 => none
    | q + 1 => some q) else some (ad a)
def ra (ad : Nat → Nat) (h : PM) (i : Nat) : Nat → Option Nat := fun j => rfa ad (h.2.1 i j)
def cel (cA : Nat → ClassId) (ad : Nat → Nat) (h : PM) (i : Nat) : va_E :=
  if m_kd h i = 0 then .inl (cA 0, m_ln h i, .inl (fun j => p_I (h.1 i j)))
  else if m_kd h i = 1 then .inl (cA 1, m_ln h i, .inl (fun j => p_I (h.1 i j)))
  else if m_kd h i = 2 then .inl (cA 2, m_ln h i, .inr (.inl (fun j => p_L (h.1 i j))))
  else if m_kd h i = 3 then .inl (cA 3, m_ln h i, .inr (.inr (.inr (.inr (ra ad h i)))))
  else if m_kd h i = 4 then .inl (cA 4, m_ln h i, .inr (.inr (.inr (.inr (ra ad h i)))))
  else .inr (m_kd h i - 10, fvs ad h i (fts (m_kd h i - 10)) 0)
def wd (cA : Nat → ClassId) (ad : Nat → Nat) (h : PM) : va_W := (List.range (m_sz h - 31)).map (fun k => (ad (31 + k), cel cA ad h (31 + k)))
def cnI (x : Int) : Prop := (p_I x).toInt = x
def cnL (x : Int) : Prop := (p_L x).toInt = x
def okR (h : PM) (r : Rf) : Prop := ∀ kd n a, r = some (kd, n, a) → a < m_sz h ∧ m_kd h a = kd ∧ m_ln h a = n ∧ (31 ≤ a ↔ ¬ (5 ≤ kd ∧ kd ≤ 8))
def okV (h : PM) (v : PV) : Prop := match v with
  | .inl x => cnI x
  | .inr (.inl x) => cnL x
  | .inr (.inr r) => okR h r
/-- what stands at a place of a cell: 0 an int, 2 a long, 3 a reference -/
def ctg (kd j : Nat) : Nat := if kd = 2 then 2 else if kd = 3 ∨ kd = 4 then 3 else if kd = 6 then (if j = 0 then 3 else 0) else if 10 ≤ kd then ((pl_at (fts (kd - 10)) j).getD 0) else 0
def okC (h : PM) (i j : Nat) : Prop := if ctg (m_kd h i) j = 2 then cnL (h.1 i j) else if ctg (m_kd h i) j = 3 then okR h (h.2.1 i j) else cnI (h.1 i j)
/-- kinds of cells that are made, in number 31 and up -/
def okK (kd : Nat) : Prop := kd ≤ 4 ∨ (11 ≤ kd ∧ kd ≤ 22)
def okH (h : PM) : Prop := 31 ≤ m_sz h ∧ (∀ i, 31 ≤ i → i < m_sz h → okK (m_kd h i)) ∧ ∀ i j, i < m_sz h → okC h i j
theorem wd_get {cA : Nat → ClassId} {ad : Nat → Nat} {h : PM} {i : Nat} (h1 : 31 ≤ i) (h2 : i < m_sz h) : (wd cA ad h)[i - 31]? = some (ad i, cel cA ad h i) := by
  unfold wd
  rw [List.getElem?_map, List.getElem?_range (by omega)]
  show some (ad (31 + (i - 31)), cel cA ad h (31 + (i - 31))) = _
  rw [show 31 + (i - 31) = i by omega]
theorem wd_ext {cA : Nat → ClassId} {ad ad' : Nat → Nat} {h h' : PM} (hs : m_sz h' = m_sz h) (e : ∀ i, 31 ≤ i → i < m_sz h → ad' i = ad i ∧ cel cA ad' h' i = cel cA ad h i) : wd cA ad' h' = wd cA ad h := by
  unfold wd
  rw [hs]
  apply List.map_congr_left
  intro k hk
  rw [List.mem_range] at hk
  obtain ⟨e1, e2⟩ := e (31 + k) (by omega) (by omega)
  rw [e1, e2]
theorem wd_set {cA : Nat → ClassId} {ad : Nat → Nat} {h h' : PM} {i : Nat} (h1 : 31 ≤ i) (h2 : i < m_sz h) (hs : m_sz h' = m_sz h) (e : ∀ j, j ≠ i → cel cA ad h' j = cel cA ad h j) : wd cA ad h' = (wd cA ad h).set (i - 31) (ad i, cel cA ad h' i) := by
  unfold wd
  apply List.ext_getElem?
  intro k
  by_cases hk : k < m_sz h - 31
  · by_cases hki : k = i - 31
    · subst hki
      rw [List.getElem?_set_self (by rw [List.length_map, List.length_range]; omega), List.getElem?_map, List.getElem?_range (by rw [hs]; exact hk)]
      show some (ad (31 + (i - 31)), cel cA ad h' (31 + (i - 31))) = _
      rw [show 31 + (i - 31) = i by omega]
    · rw [List.getElem?_set_ne (Ne.symm hki), List.getElem?_map, List.getElem?_map, List.getElem?_range (by rw [hs]; exact hk), List.getElem?_range hk]
      show some (ad (31 + k), cel cA ad h' (31 + k)) = some (ad (31 + k), cel cA ad h (31 + k))
      rw [e (31 + k) (by omega)]
  · rw [List.getElem?_eq_none (by rw [List.length_map, List.length_range]; omega), List.getElem?_eq_none (by rw [List.length_set, List.length_map, List.length_range]; omega)]
theorem wd_push {cA : Nat → ClassId} {ad ad' : Nat → Nat} {h h' : PM} (h0 : 31 ≤ m_sz h) (hs : m_sz h' = m_sz h + 1) (e : ∀ i, 31 ≤ i → i < m_sz h → ad' i = ad i ∧ cel cA ad' h' i = cel cA ad h i) : wd cA ad' h' = wd cA ad h ++ [(ad' (m_sz h), cel cA ad' h' (m_sz h))] := by
  unfold wd
  rw [hs, show m_sz h + 1 - 31 = (m_sz h - 31) + 1 by omega, List.range_succ, List.map_append]
  congr 1
  · apply List.map_congr_left
    intro k hk
    rw [List.mem_range] at hk
    obtain ⟨e1, e2⟩ := e (31 + k) (by omega) (by omega)
    rw [e1, e2]
  · show [(ad' (31 + (m_sz h - 31)), cel cA ad' h' (31 + (m_sz h - 31)))] = _
    rw [show 31 + (m_sz h - 31) = m_sz h by omega]
theorem cnI_toInt (i : Int32) : cnI i.toInt := by
  unfold cnI p_I
  rw [Int32.ofInt_toInt]
theorem cnL_toInt (i : Int64) : cnL i.toInt := by
  unfold cnL p_L
  rw [Int64.ofInt_toInt]
theorem p_I_toInt (i : Int32) : p_I i.toInt = i := by unfold p_I; rw [Int32.ofInt_toInt]
theorem p_L_toInt (i : Int64) : p_L i.toInt = i := by unfold p_L; rw [Int64.ofInt_toInt]
theorem cn_lt {x y : Int} (hx : cnI x) (hy : cnI y) : p_I x < p_I y ↔ x < y := by
  rw [Int32.lt_iff_toInt_lt]
  unfold cnI at hx hy
  rw [hx, hy]
theorem cn_le {x y : Int} (hx : cnI x) (hy : cnI y) : p_I x ≤ p_I y ↔ x ≤ y := by
  rw [Int32.le_iff_toInt_le]
  unfold cnI at hx hy
  rw [hx, hy]
theorem cn_eq {x y : Int} (hx : cnI x) (hy : cnI y) : p_I x = p_I y ↔ x = y := by
  constructor
  · intro h
    rw [← hx, ← hy, h]
  · intro h; rw [h]
theorem cn_in {x : Int} {n : Nat} (hx : cnI x) : vp_in (p_I x) n ↔ (0 ≤ x ∧ x < n) := by
  rw [vp_in_iff]
  unfold cnI at hx
  rw [hx]
theorem cn_nat {x : Int} (hx : cnI x) (h0 : 0 ≤ x) : (p_I x).toNatClampNeg = x.toNat := by
  unfold cnI at hx
  unfold Int32.toNatClampNeg
  rw [hx]
theorem cn_0 : cnI 0 := by unfold cnI; decide
theorem cn_small {n : Nat} (h : n ≤ 100000) : cnI (n : Int) := by
  unfold cnI p_I
  rw [Int32.toInt_ofInt_of_le (by omega) (by omega)]
end
