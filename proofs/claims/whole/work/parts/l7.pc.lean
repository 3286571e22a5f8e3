/-! ===== pieces of both sides alike: rings and edges ===== -/
noncomputable section
/-- edges of a spoke to the ring -/
def otP (H s : Nat) (A : Nat → Int) (i : Nat) : Int := A i - 1 - (if 0 < i ∨ s = H then (1 : Int) else 0) - (if i + 1 < s ∨ s = H then (1 : Int) else 0)
/-- places of the ring -/
def rsz (H s : Nat) (A : Nat → Int) : Int := if s = 0 then (H : Int) else (if s = H then (0 : Int) else (H : Int) - (s : Int) - 1) + smI (fun i => otP H s A i - 1) s
def eBP (H s : Nat) (A : Nat → Int) (r : Int) : Int × List (Int × Int) := edB (fun i => r + 1 + (i : Int)) (otP H s A) r s
/-- all edges -/
def epL (H s : Nat) (A : Nat → Int) (r : Int) : List (Int × Int) := (edR r r.toNat ++ edS r (s : Int) (H : Int) s) ++ ((eBP H s A r).2 ++ (if s = H then [] else edP r (eBP H s A r).1 r (H - s)))
def cDt (J : Nat → Nat → Int) (a0 H s : Nat) (A : Nat → Int) : Prop := J a0 0 = (H : Int) ∧ J a0 1 = (s : Int) ∧ ∀ k, k < s → J (a0 + 1) k = A k
def mDt (M : Nat → Int) (p H s : Nat) (A : Nat → Int) : Prop := M (20 * p) = (H : Int) ∧ M (20 * p + 1) = (s : Int) ∧ ∀ k, k < s → M (20 * p + 2 + k) = A k
section
variable {I J K : Nat → Nat → Int} {M A : Nat → Int} {a0 p H s : Nat} {r : Int}
theorem smI_cg {f g : Nat → Int} : ∀ {n : Nat}, (∀ i, i < n → f i = g i) → smI f n = smI g n
  | 0, _ => rfl
  | n + 1, h => by
    show smI f n + f n = smI g n + g n
    rw [smI_cg (n := n) (fun i hi => h i (by omega)), h n (by omega)]
theorem edB_cg {v v' m m' : Nat → Int} : ∀ {n : Nat}, (∀ i, i < n → v i = v' i ∧ m i = m' i) → edB v m r n = edB v' m' r n
  | 0, _ => rfl
  | n + 1, h => by
    show ((edB v m r n).1 + (m n - 1), (edB v m r n).2 ++ edP (v n) (edB v m r n).1 r (m n).toNat) = ((edB v' m' r n).1 + (m' n - 1), (edB v' m' r n).2 ++ edP (v' n) (edB v' m' r n).1 r (m' n).toNat)
    rw [edB_cg (n := n) (fun i hi => h i (by omega)), (h n (by omega)).1, (h n (by omega)).2]
theorem etr_P (h : cDt J a0 H s A) {i : Nat} (hi : i < s) : f_X3_edgesToRing J a0 (i : Int) = otP H s A i := by
  rw [etr_eq, h.1, h.2.1, Int.toNat_natCast, h.2.2 i hi]
  unfold otP
  have e1 : (0 < (i : Int) ∨ (s : Int) = (H : Int)) ↔ (0 < i ∨ s = H) := by omega
  have e2 : ((i : Int) + 1 < (s : Int) ∨ (s : Int) = (H : Int)) ↔ (i + 1 < s ∨ s = H) := by omega
  rw [ite_iff e1, ite_iff e2]
theorem prC_P (h : cDt J a0 H s A) : prC J a0 = rsz H s A := by
  unfold prC prB prT rsz
  rw [h.1, h.2.1]
  by_cases c : s = 0
  · rw [if_pos (by omega), if_pos c]
  · rw [if_neg (by omega), if_neg c, Int.toNat_natCast, smI_cg (fun i hi => by rw [etr_P h hi])]
    by_cases w : s = H
    · rw [if_neg (by omega), if_pos w]
    · rw [if_pos (by omega), if_neg w]
theorem out_P {a : Nat} (h : mDt (I a) p H s A) {i : Nat} (hi : i < s) : f_X12_outer I a (p : Int) (i : Int) = otP H s A i := by
  unfold f_X12_outer
  have i0 : (20 * (p : Int)).toNat = 20 * p := by omega
  have i1 : ((20 * (p : Int)) + 1).toNat = 20 * p + 1 := by omega
  have i2 : (((20 * (p : Int)) + 2) + (i : Int)).toNat = 20 * p + 2 + i := by omega
  rw [i0, i1, i2, h.1, h.2.1, h.2.2 i hi, if_pos (by omega)]
  unfold otP
  have e1 : (0 < (i : Int) ∨ (s : Int) = (H : Int)) ↔ (0 < i ∨ s = H) := by omega
  have e2 : ((i : Int) + 1 < (s : Int) ∨ (s : Int) = (H : Int)) ↔ (i + 1 < s ∨ s = H) := by omega
  rw [ite_iff e1, ite_iff e2]
theorem out_H {a : Nat} (h : mDt (I a) p H s A) : f_X12_outer I a (p : Int) (s : Int) = (H : Int) - (s : Int) := by
  unfold f_X12_outer
  have i0 : (20 * (p : Int)).toNat = 20 * p := by omega
  have i1 : ((20 * (p : Int)) + 1).toNat = 20 * p + 1 := by omega
  rw [i0, i1, h.1, h.2.1, if_neg (fun w => w rfl)]
theorem bdF_P (h : mDt M p H s A) : bdF M (p : Int) = if s = H then (H : Int) else (s : Int) + 1 := by
  unfold bdF
  have i0 : (20 * (p : Int)).toNat = 20 * p := by omega
  have i1 : ((20 * (p : Int)) + 1).toNat = 20 * p + 1 := by omega
  rw [i0, i1, h.1, h.2.1]
  by_cases w : s = H
  · rw [if_neg (by omega), if_pos w]
  · rw [if_pos (by omega), if_neg w]
theorem rgM_P {a : Nat} (h : mDt (I a) p H s A) : rgM I a (p : Int) = rsz H s A := by
  unfold rgM rsz
  have i0 : (20 * (p : Int)).toNat = 20 * p := by omega
  have i1 : ((20 * (p : Int)) + 1).toNat = 20 * p + 1 := by omega
  rw [i0, i1, h.2.1, h.1, bdF_P h]
  by_cases c : s = 0
  · rw [if_pos (by omega), if_pos c]
  · rw [if_neg (by omega), if_neg c]
    by_cases w : s = H
    · rw [if_pos w, if_pos w, Int.toNat_natCast, ← w, smI_cg (fun i hi => by rw [out_P h hi])]
      rw [w]
      omega
    · rw [if_neg w, if_neg w, show ((s : Int) + 1).toNat = s + 1 by omega]
      show smI (fun i => f_X12_outer I a (p : Int) (i : Int) - 1) s + (f_X12_outer I a (p : Int) (s : Int) - 1) = _
      rw [out_H h, smI_cg (fun i hi => by rw [out_P h hi])]
      omega
theorem edT_S {r : Int} (hH : 5 ≤ H) : ∀ k, k < s → edT r (s : Int) k = edS r (s : Int) (H : Int) k
  | 0, _ => rfl
  | k + 1, hk => by
    show (edT r (s : Int) k ++ [(r, r + 1 + (k : Int))]) ++ (if (k : Int) + 1 < (s : Int) then [(r + 1 + (k : Int), r + 2 + (k : Int))] else []) = (edS r (s : Int) (H : Int) k ++ [(r, r + 1 + (k : Int))]) ++ (if (k : Int) + 1 < (s : Int) then [(r + 1 + (k : Int), r + 2 + (k : Int))] else if (s : Int) = (H : Int) then [(r + 1 + (k : Int), r + 1)] else [])
    rw [edT_S hH k (by omega), if_pos (by omega), if_pos (by omega)]
theorem edT_all {r : Int} (hH : 5 ≤ H) : edT r (s : Int) s ++ (if (s : Int) = (H : Int) then [(r + (s : Int), r + 1)] else []) = edS r (s : Int) (H : Int) s := by
  rcases Nat.eq_zero_or_pos s with c | c
  · subst c
    rw [if_neg (by omega)]
    rfl
  · obtain ⟨k, rfl⟩ : ∃ k, s = k + 1 := ⟨s - 1, by omega⟩
    show ((edT r ((k + 1 : Nat) : Int) k ++ [(r, r + 1 + (k : Int))]) ++ (if (k : Int) + 1 < ((k + 1 : Nat) : Int) then [(r + 1 + (k : Int), r + 2 + (k : Int))] else [])) ++ _ = (edS r ((k + 1 : Nat) : Int) (H : Int) k ++ [(r, r + 1 + (k : Int))]) ++ (if (k : Int) + 1 < ((k + 1 : Nat) : Int) then [(r + 1 + (k : Int), r + 2 + (k : Int))] else if ((k + 1 : Nat) : Int) = (H : Int) then [(r + 1 + (k : Int), r + 1)] else [])
    have hn : ¬((k : Int) + 1 < ((k + 1 : Nat) : Int)) := by omega
    rw [edT_S hH k (by omega), show r + ((k + 1 : Nat) : Int) = r + 1 + (k : Int) by omega]
    simp only [if_neg hn, List.append_nil]
theorem edBu_P {K : Nat → Nat → Int} (h : cDt K a0 H s A) (h3 : K a0 3 = r) (hH : 5 ≤ H ∧ s ≤ H) : edBu K a0 = epL H s A r := by
  unfold edBu edCL epL eBP edC
  rw [h.1, h.2.1, h3, Int.toNat_natCast, List.append_assoc (edR r r.toNat), edT_all hH.1, edB_cg (v' := fun i => r + 1 + (i : Int)) (m' := otP H s A) (fun i hi => ⟨rfl, etr_P h hi⟩)]
  by_cases w : s = H
  · rw [if_pos w, if_neg (by omega)]
  · rw [if_neg w, if_pos (by omega), show ((H : Int) - (s : Int)).toNat = H - s by omega]
theorem edW_P {a : Nat} (h : mDt (I a) p H s A) (h9 : I a (20 * p + 9) = r) (hH : 5 ≤ H ∧ s ≤ H) (hr0 : s = 0 → r = (H : Int)) : edW I a (p : Int) = epL H s A r := by
  unfold edW epL
  have i0 : (20 * (p : Int)).toNat = 20 * p := by omega
  have i1 : ((20 * (p : Int)) + 1).toNat = 20 * p + 1 := by omega
  have i9 : ((20 * (p : Int)) + 9).toNat = 20 * p + 9 := by omega
  rw [i0, i1, i9, h.1, h.2.1, h9, Int.toNat_natCast, bdF_P h]
  congr 1
  have cg : ∀ i, i < s → (fun i : Nat => if (i : Int) ≠ (s : Int) then (r + 1 + (i : Int) : Int) else r) i = (fun i : Nat => r + 1 + (i : Int)) i ∧ (fun i : Nat => if (s : Int) ≠ 0 then (f_X12_outer I a (p : Int) (i : Int) : Int) else r) i = otP H s A i := fun i hi => ⟨if_pos (show (i : Int) ≠ (s : Int) by omega), by show (if (s : Int) ≠ 0 then _ else _) = _; rw [if_pos (by omega), out_P h hi]⟩
  by_cases w : s = H
  · subst w
    rw [if_pos rfl, if_pos rfl, Int.toNat_natCast, edB_cg cg, List.append_nil]
    rfl
  · rw [if_neg w, if_neg w, show ((s : Int) + 1).toNat = s + 1 by omega]
    have e := edB_cg (r := r) cg
    show (edB _ _ r s).2 ++ edP (if (s : Int) ≠ (s : Int) then (r + 1 + (s : Int) : Int) else r) (edB _ _ r s).1 r (if (s : Int) ≠ 0 then (f_X12_outer I a (p : Int) (s : Int) : Int) else r).toNat = _
    rw [e, if_neg (fun w => w rfl), out_H h]
    have e2 : (if (s : Int) ≠ 0 then ((H : Int) - (s : Int) : Int) else r).toNat = H - s := by
      by_cases c : s = 0
      · rw [if_neg (by omega), hr0 c]; omega
      · rw [if_pos (by omega)]; omega
    rw [e2]
    rfl
/-- both ends of all edges are vertices -/
def edI (l : List (Int × Int)) : Prop := ∀ e, e ∈ l → (0 ≤ e.1 ∧ e.1 < 15) ∧ 0 ≤ e.2 ∧ e.2 < 15
theorem edI_app {l m : List (Int × Int)} (h : edI l) (g : edI m) : edI (l ++ m) := fun e he => (List.mem_append.mp he).elim (h e) (g e)
theorem edI_nil : edI [] := fun e he => absurd he (by simp)
theorem edI_one {a b : Int} (h : (0 ≤ a ∧ a < 15) ∧ 0 ≤ b ∧ b < 15) : edI [(a, b)] := fun e he => by rw [List.mem_singleton] at he; rw [he]; exact h
theorem edR_I (hr : 1 ≤ r ∧ r ≤ 7) : ∀ k : Nat, (k : Int) ≤ r → edI (edR r k)
  | 0, _ => edI_nil
  | k + 1, hk => by
    have h1 := Int.emod_nonneg ((k : Int) + 1) (show r ≠ 0 by omega)
    have h2 := Int.emod_lt_of_pos ((k : Int) + 1) (show 0 < r by omega)
    exact edI_app (edR_I hr k (by omega)) (edI_one ⟨by omega, by omega⟩)
theorem edS_I (hr : 1 ≤ r ∧ r ≤ 7) (hs : s ≤ 7) : ∀ k, k ≤ s → edI (edS r (s : Int) (H : Int) k)
  | 0, _ => edI_nil
  | k + 1, hk => by
    refine edI_app (edI_app (edS_I hr hs k (by omega)) (edI_one ⟨by omega, by omega⟩)) ?_
    by_cases w : (k : Int) + 1 < (s : Int)
    · rw [if_pos w]; exact edI_one ⟨by omega, by omega⟩
    · rw [if_neg w]
      by_cases w2 : (s : Int) = (H : Int)
      · rw [if_pos w2]; exact edI_one ⟨by omega, by omega⟩
      · rw [if_neg w2]; exact edI_nil
theorem edP_I {v at0 : Int} (hr : 1 ≤ r ∧ r ≤ 7) (hv : 0 ≤ v ∧ v < 15) : ∀ k, edI (edP v at0 r k)
  | 0 => edI_nil
  | k + 1 => by
    have h1 := Int.emod_nonneg (at0 + (k : Int)) (show r ≠ 0 by omega)
    have h2 := Int.emod_lt_of_pos (at0 + (k : Int)) (show 0 < r by omega)
    exact edI_app (edP_I hr hv k) (edI_one ⟨hv, by omega⟩)
theorem edB_I {v m : Nat → Int} (hr : 1 ≤ r ∧ r ≤ 7) : ∀ k, (∀ i, i < k → 0 ≤ v i ∧ v i < 15) → edI (edB v m r k).2
  | 0, _ => edI_nil
  | k + 1, hv => edI_app (edB_I hr k (fun i hi => hv i (by omega))) (edP_I hr (hv k (by omega)) _)
theorem epL_I (hr : 1 ≤ r ∧ r ≤ 7) (hs : s ≤ 7) : edI (epL H s A r) := by
  refine edI_app (edI_app (edR_I hr r.toNat (by omega)) (edS_I hr hs s (by omega))) (edI_app (edB_I hr s (fun i hi => by omega)) ?_)
  split
  · exact edI_nil
  · exact edP_I hr (by omega) _
/-- what an edge more does, bit by bit -/
theorem lk_bt {f : Nat → Int} {a b : Int} (ha : 0 ≤ a ∧ a < 15) (hb : 0 ≤ b ∧ b < 15) (x y : Nat) : bt (lk f a b x) y = (bt (f x) y || decide (((x : Int) = a ∧ (y : Int) = b) ∨ ((x : Int) = b ∧ (y : Int) = a))) := by
  unfold lk
  have ba := bt_bit (s := a) (by omega) y
  have bb := bt_bit (s := b) (by omega) y
  by_cases c1 : x = b.toNat
  · by_cases c2 : x = a.toNat
    · have : a.toNat = b.toNat := by omega
      rw [c1, up1_same, bt_or, ba, ← this, up1_same, bt_or, bb]
      cases bt (f a.toNat) y <;> simp only [Bool.true_or, Bool.false_or]
      rw [← Bool.decide_or]
      exact decide_eq_decide.mpr (by omega)
    · rw [c1, up1_same, bt_or, ba, up1_o _ (by omega)]
      congr 1
      exact decide_eq_decide.mpr (by omega)
  · rw [up1_o _ c1]
    by_cases c2 : x = a.toNat
    · rw [c2, up1_same, bt_or, bb]
      congr 1
      exact decide_eq_decide.mpr (by omega)
    · rw [up1_o _ c2, decide_eq_false (by omega), Bool.or_false]
theorem lk_I {f : Nat → Int} {a b : Int} {x : Nat} (h : isI (f x)) : isI (lk f a b x) := by
  unfold lk
  by_cases c1 : x = b.toNat
  · rw [c1, up1_same]; exact isI_or _ _
  · rw [up1_o _ c1]
    by_cases c2 : x = a.toNat
    · rw [c2, up1_same]; exact isI_or _ _
    · rw [up1_o _ c2]; exact h
theorem lkL_good : ∀ {l : List (Int × Int)} {f : Nat → Int}, edI l → (∀ x y : Nat, x < 15 → y < 15 → bt (f x) y = bt (f y) x) → (∀ x, x < 15 → isI (f x)) → (∀ x y, x < 15 → 15 ≤ y → bt (f x) y = false) → (∀ x y : Nat, x < 15 → y < 15 → bt (lkL f l x) y = bt (lkL f l y) x) ∧ (∀ x, x < 15 → isI (lkL f l x)) ∧ ∀ x y, x < 15 → 15 ≤ y → bt (lkL f l x) y = false
  | [], f, _, h1, h2, h3 => ⟨h1, h2, h3⟩
  | (a, b) :: l, f, hl, h1, h2, h3 => by
    obtain ⟨ha, hb⟩ := hl (a, b) (by simp)
    exact lkL_good (l := l) (f := lk f a b) (fun e he => hl e (List.mem_cons_of_mem _ he)) (fun x y hx hy => by
      rw [lk_bt ha hb, lk_bt ha hb, h1 x y hx hy]
      congr 1
      exact decide_eq_decide.mpr (by omega)) (fun x hx => lk_I (h2 x hx)) (fun x y hx hy => by
      rw [lk_bt ha hb, h3 x y hx hy, decide_eq_false (by simp only at ha hb; omega)]
      rfl)
theorem lkO_P {f g : Nat → Int} {o : Nat} {a b : Int} (ha : 0 ≤ a) (hb : 0 ≤ b) (v : Nat) (h : ∀ v, f (o + v) = g v) : lkO f (o : Int) a b (o + v) = lk g a b v := by
  unfold lkO lk
  have ia : ((o : Int) + a).toNat = o + a.toNat := by omega
  have ib : ((o : Int) + b).toNat = o + b.toNat := by omega
  have k1 : ∀ v, up1 f (o + a.toNat) (p_or (f (o + a.toNat)) (p_shl 1 b)) (o + v) = up1 g a.toNat (p_or (g a.toNat) (p_shl 1 b)) v := fun v => by
    by_cases c : v = a.toNat
    · rw [c, up1_same, up1_same, h]
    · rw [up1_o _ (by omega), up1_o _ c, h]
  rw [ia, ib]
  by_cases c : v = b.toNat
  · rw [c, up1_same, up1_same, k1]
  · rw [up1_o _ (by omega), up1_o _ c, k1]
theorem lkOL_P : ∀ {l : List (Int × Int)} {f g : Nat → Int} {o : Nat}, edI l → (∀ v, f (o + v) = g v) → ∀ v, lkOL f (o : Int) l (o + v) = lkL g l v
  | [], _, _, _, _, h => h
  | (a, b) :: l, f, g, o, hl, h => lkOL_P (l := l) (f := lkO f (o : Int) a b) (g := lk g a b) (fun e he => hl e (List.mem_cons_of_mem _ he)) (fun v => lkO_P (hl (a, b) (by simp)).1.1 (hl (a, b) (by simp)).2.1 v h)
theorem lkOL_o : ∀ {l : List (Int × Int)} {f : Nat → Int} {o x : Nat}, edI l → ¬(o ≤ x ∧ x < o + 15) → lkOL f (o : Int) l x = f x
  | [], _, _, _, _, _ => rfl
  | (a, b) :: l, f, o, x, hl, h => by
    have ha := (hl (a, b) (by simp)).1
    have hb := (hl (a, b) (by simp)).2
    show lkOL (lkO f (o : Int) a b) (o : Int) l x = f x
    rw [lkOL_o (l := l) (fun e he => hl e (List.mem_cons_of_mem _ he)) h]
    unfold lkO
    simp only at ha hb
    rw [up1_o _ (by omega), up1_o _ (by omega)]
theorem lkL_cg : ∀ {l : List (Int × Int)} {f g : Nat → Int} {v : Nat}, f v = g v → lkL f l v = lkL g l v
  | [], _, _, _, h => h
  | (a, b) :: l, f, g, v, h => lkL_cg (l := l) (f := lk f a b) (g := lk g a b) (by
    unfold lk
    by_cases c : v = b.toNat
    · rw [← c, up1_same, up1_same]
      by_cases c2 : v = a.toNat
      · rw [← c2, up1_same, up1_same, h]
      · rw [up1_o _ c2, up1_o _ c2, h]
    · rw [up1_o _ c, up1_o _ c]
      by_cases c2 : v = a.toNat
      · rw [← c2, up1_same, up1_same, h]
      · rw [up1_o _ c2, up1_o _ c2, h])
/-- rings have at least five places -/
theorem rsz_5 (hH : 5 ≤ H ∧ H ≤ 7) (hs : s ≤ H) (hA : ∀ k, k < s → 5 ≤ A k) : 5 ≤ rsz H s A := by
  unfold rsz
  by_cases c : s = 0
  · rw [if_pos c]; omega
  · rw [if_neg c]
    by_cases w : s = H
    · rw [if_pos w]
      have : ∀ k : Nat, k ≤ s → (k : Int) ≤ smI (fun i => otP H s A i - 1) k := by
        intro k
        induction k with
        | zero => intro _; exact Int.le_refl _
        | succ k ih =>
          intro hk
          have := ih (by omega)
          have ha := hA k (by omega)
          show ((k + 1 : Nat) : Int) ≤ smI (fun i => otP H s A i - 1) k + (otP H s A k - 1)
          rw [show otP H s A k = A k - 1 - (if 0 < k ∨ s = H then (1 : Int) else 0) - (if k + 1 < s ∨ s = H then (1 : Int) else 0) from rfl]
          rw [if_pos (Or.inr w), if_pos (Or.inr w)]
          omega
      have := this s (by omega)
      omega
    · rw [if_neg w]
      have : ∀ k : Nat, k ≤ s → (k : Int) + (if 0 < k then 1 else 0) + (if k = s ∧ 0 < k then 1 else 0) ≤ smI (fun i => otP H s A i - 1) k := by
        intro k
        induction k with
        | zero => intro _; rw [if_neg (by omega), if_neg (by omega)]; exact Int.le_refl _
        | succ k ih =>
          intro hk
          have := ih (by omega)
          have ha := hA k (by omega)
          rw [if_neg (show ¬(k = s ∧ 0 < k) by omega)] at this
          show _ ≤ smI (fun i => otP H s A i - 1) k + (otP H s A k - 1)
          rw [show otP H s A k = A k - 1 - (if 0 < k ∨ s = H then (1 : Int) else 0) - (if k + 1 < s ∨ s = H then (1 : Int) else 0) from rfl]
          rw [if_pos (Nat.succ_pos k)]
          by_cases k0 : 0 < k
          · rw [if_pos k0] at this
            rw [if_pos (Or.inl k0)]
            by_cases k1 : k + 1 < s
            · rw [if_pos (Or.inl k1), if_neg (by omega)]; omega
            · rw [if_neg (show ¬(k + 1 < s ∨ s = H) by omega), if_pos (by omega)]; omega
          · rw [if_neg k0] at this
            rw [if_neg (show ¬(0 < k ∨ s = H) by omega)]
            by_cases k1 : k + 1 < s
            · rw [if_pos (Or.inl k1), if_neg (by omega)]; omega
            · rw [if_neg (show ¬(k + 1 < s ∨ s = H) by omega), if_pos (by omega)]; omega
      have := this s (by omega)
      rw [if_pos (by omega), if_pos (by omega)] at this
      omega
end
end
