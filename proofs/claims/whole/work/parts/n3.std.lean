/-! ===== pieces that are studied: what both keep of them ===== -/
noncomputable section
theorem mxI_is {g : Nat → Int} {m : Int} : ∀ {n : Nat}, 0 ≤ m → (∀ i, i < n → g i ≤ m) → (m = 0 ∨ ∃ i, i < n ∧ g i = m) → mxI g n = m
  | 0, _, _, h => h.elim (fun e => e.symm) (fun ⟨i, hi, _⟩ => absurd hi (by omega))
  | n + 1, h0, hle, h => by
    have hn := hle n (by omega)
    show (if g n ≤ mxI g n then (mxI g n : Int) else g n) = m
    by_cases e : g n = m
    · by_cases q : g n ≤ mxI g n
      · rw [if_pos q]
        have : mxI g n ≤ m := by
          have : ∀ k, k ≤ n → mxI g k ≤ m := by
            intro k
            induction k with
            | zero => intro _; exact h0
            | succ k ih =>
              intro hk
              have h1 := ih (by omega)
              have h2 := hle k (by omega)
              show (if g k ≤ mxI g k then (mxI g k : Int) else g k) ≤ m
              split <;> omega
          exact this n (Nat.le_refl _)
        omega
      · rw [if_neg q]; exact e
    · have ih := mxI_is (g := g) (m := m) (n := n) h0 (fun i hi => hle i (by omega)) (h.elim Or.inl (fun ⟨i, hi, ei⟩ => by
        by_cases q : i = n
        · rw [q] at ei; exact absurd ei e
        · exact Or.inr ⟨i, by omega, ei⟩))
      rw [ih, if_pos hn]
theorem lvL_mx {led : Int → (Nat → Int) → Nat → Bool} {N : Nat} : ∀ {k : Nat} {rd : Int} {f : Nat → Int}, 1 ≤ rd → (∀ i, i < N → f i < rd) → (rd = 1 ∨ ∃ i, i < N ∧ f i = rd - 1) → lvL led N k rd f = mxI (lvF led N k rd f) N
  | 0, rd, f, h1, hf, he => (mxI_is (m := rd - 1) (by omega) (fun i hi => by have := hf i hi; show f i ≤ _; omega) (he.elim (fun e => Or.inl (by omega)) Or.inr)).symm
  | k + 1, rd, f, h1, hf, he => by
    show (if lvC (led rd) rd N f = true then lvL led N k (rd + 1) (lvR (led rd) rd N f) else rd - 1) = mxI (if lvC (led rd) rd N f = true then lvF led N k (rd + 1) (lvR (led rd) rd N f) else lvR (led rd) rd N f) N
    obtain ⟨m1, m2⟩ := lvR_max (led := led rd) (rd := rd) hf (Nat.le_refl N)
    cases q : lvC (led rd) rd N f with
    | true =>
      rw [if_pos rfl, if_pos rfl]
      obtain ⟨i, hi, ei⟩ := m2 q
      exact lvL_mx (by omega) (fun i hi => by have := m1 i hi; omega) (Or.inr ⟨i, hi, by omega⟩)
    | false =>
      rw [if_neg (by decide), if_neg (by decide), lvR_same q]
      exact (mxI_is (m := rd - 1) (by omega) (fun i hi => by have := hf i hi; omega) (he.elim (fun e => Or.inl (by omega)) Or.inr)).symm
/-- edges and joins of the reference's piece p -/
def eFn (I : Nat → Nat → Int) (p : Nat) (v a : Nat) : Bool := bt (I 165 ((15 * (p : Int)) + (v : Int)).toNat) a
def jFn (I : Nat → Nat → Int) (p : Nat) (v a : Nat) : Bool := jnM (I 159) (p : Int) (a : Int) (v : Int)
def cdI (r : Nat) (i : Nat) : Int := (cdN r i : Int)
/-- levels of the reference's piece p -/
def lv0 (I : Nat → Nat → Int) (p r s : Nat) : Nat → Int := lvF (ldL (r : Int) (cdI r)) (lnC r) 200 1 (fun c => if lpE (eFn I p) (jFn I p) r (r + 1 + s) false (cdI r c) = true then 0 else -1)
/-- tables of the reference -/
def tbM (I : Nat → Nat → Int) (p r s : Nat) : Prop := I 167 p = (lnC r : Int) ∧ (∀ i, i < lnC r → I 168 (96 * p + i) = cdI r i) ∧ (∀ i, i < lnC r → I 169 (96 * p + i) = (if lpE (eFn I p) (jFn I p) r (r + 1 + s) false (cdI r i) = true then 1 else 0) ∧ I 170 (96 * p + i) = (if (decide (0 < I 159 ((20 * (p : Int)) + 10).toNat) && lpE (eFn I p) (jFn I p) r (r + 1 + s) true (cdI r i)) = true then 1 else 0)) ∧ ∀ i, i < lnC r → I 171 (96 * p + i) = lv0 I p r s i
/-- tables of the class, once a piece is studied -/
def tbC (I : Nat → Nat → Int) (A p r : Nat) : Prop := I A 9 = 1 ∧ (∀ i, i < lnC r → I (A + 5) i = I 171 (96 * p + i)) ∧ I A 14 = mxI (fun i => I 171 (96 * p + i)) (lnC r) ∧ wdO (I (A + 6)) (fun i => decide (I 169 (96 * p + i) = 1)) (lnC r) ∧ wdO (I (A + 7)) (fun i => decide (I 171 (96 * p + i) = -1)) (lnC r) ∧ wdO (I (A + 8)) (fun i => decide (I 170 (96 * p + i) = 1)) (lnC r)
section
variable {d : Nat} {I J K : Nat → Nat → Int} {S S' : PS} {A T U p r s : Nat}
theorem mxI_cg {f g : Nat → Int} : ∀ {n : Nat}, (∀ i, i < n → f i = g i) → mxI f n = mxI g n
  | 0, _ => rfl
  | n + 1, h => by
    show (if f n ≤ mxI f n then (mxI f n : Int) else f n) = (if g n ≤ mxI g n then (mxI g n : Int) else g n)
    rw [mxI_cg (n := n) (fun i hi => h i (by omega)), h n (by omega)]
theorem swE_lt {no j : Nat} (h1 : 1 ≤ no) (h2 : no < 4) : 0 ≤ (swE no j : Int) ∧ (swE no j : Int) < 16 := by
  have h : ∀ (l : List Nat) (j : Nat), (∀ x, x ∈ l → x < 16) → l.getD j 0 < 16 := fun l j hl => by
    rw [List.getD_eq_getElem?_getD]
    cases e : l[j]? with
    | none => decide
    | some x => exact hl x (List.mem_of_getElem? e)
  have : swE no j < 16 := by
    unfold swE
    rcases (show no = 1 ∨ no = 2 ∨ no = 3 by omega) with e | e | e <;> subst e <;> exact h _ j (by decide)
  omega
theorem jnM_sym (M : Nat → Int) (p x y : Int) : jnM M p x y = jnM M p y x := by
  unfold jnM
  refine anyB_congr (fun k _ => ?_)
  unfold jnP
  exact decide_eq_decide.mpr ⟨fun h => h.elim Or.inr Or.inl, fun h => h.elim Or.inr Or.inl⟩
theorem wdO_cg {f : Nat → Int} {P Q : Nat → Bool} {c : Nat} (h : wdO f P c) (e : ∀ i, i < c → P i = Q i) : wdO f Q c := fun w hw => ⟨(h w hw).1, fun k hk => by
  rw [(h w hw).2 k hk]
  by_cases q : 32 * w + k < c
  · rw [e _ q]
  · rw [decide_eq_false q, Bool.and_false, Bool.and_false]⟩
theorem LyX11_of (h : LyX11 S T U) (e : ∀ b, b < 192 → b ≠ 120 → S'.1 b = S.1 b) (hT : T < 150) (hU : U < 150) (hT0 : T + 43 ≤ 120) (hU0 : U + 43 ≤ 120) : LyX11 S' T U := by
  unfold LyX11 LyX10 LyX0 LyX1 LyX9 LyX8 LyX4 LyX2 LyX3 LyX7 at h ⊢
  rw [e 31 (by omega) (by omega), e 32 (by omega) (by omega), e T (by omega) (by omega), e U (by omega) (by omega), e (T + 1) (by omega) (by omega), e (U + 1) (by omega) (by omega), e (T + 2) (by omega) (by omega), e (U + 2) (by omega) (by omega), e 121 (by omega) (by omega), e 126 (by omega) (by omega), e (126 + 1) (by omega) (by omega), e 135 (by omega) (by omega), e (135 + 1) (by omega) (by omega), e 144 (by omega) (by omega), e 145 (by omega) (by omega), e 147 (by omega) (by omega), e 148 (by omega) (by omega)]
  obtain ⟨h1, h2, h3, h4, h5, h6, h7, h8, h9, h10, h11, h12, h13, h14, h15, h16, h17⟩ := h
  refine ⟨h1, h2, h3, h4, h5, h6, h7, h8, h9, h10, h11, h12, h13, h14, ?_, ?_, h17⟩
  · obtain ⟨g1, g2, g3, g4, g5, g6, g7⟩ := h15
    exact ⟨g1, g2, g3, g4, g5, fun i hi => by rw [e (T + 7 + 9 * i) (by omega) (by omega)]; exact g6 i hi, g7⟩
  · obtain ⟨g1, g2, g3, g4, g5, g6, g7⟩ := h16
    exact ⟨g1, g2, g3, g4, g5, fun i hi => by rw [e (U + 7 + 9 * i) (by omega) (by omega)]; exact g6 i hi, g7⟩
theorem LyX3_of (h : LyX3 S A) (e : S'.1 A = S.1 A) : LyX3 S' A := by unfold LyX3 at h ⊢; rw [e]; exact h
/-- what studying leaves alone -/
def suF (A : Nat) (I J : Nat → Nat → Int) : Prop := (∀ b, b < 192 → b ≠ A → b ≠ A + 4 → b ≠ A + 5 → b ≠ A + 6 → b ≠ A + 7 → b ≠ A + 8 → J b = I b) ∧ ∀ k, k ≠ 9 → k ≠ 14 → J A k = I A k
theorem st_C (hl0 : LyX11 S T U) (hl1 : LyX3 S A) (hTU : (T < 150 ∧ T + 43 ≤ 120) ∧ U < 150 ∧ U + 43 ≤ 120) (hA : 34 ≤ A ∧ A + 9 ≤ 120) (hp : p < 4) (hpc : pcR I A (I 159) (I 165) p) (hr : I A 3 = (r : Int)) (hs : I A 1 = (s : Int)) (hM : tbM I p r s) (hsw : ∀ no j : Nat, 1 ≤ no → no < 4 → I no j = (swE no j : Int)) (hR : rgI I S) (h9 : I A 9 = 0 ∨ tbC I A p r) : ∃ J S', Ca (d + 23) mX11_studied [vR (some (21, 0, 31)), vR (some (14, 0, A))] (I, S) (.inl (some (vR (some (14, 0, A))))) (J, S') ∧ tbC J A p r ∧ suF A I J ∧ rgI J S' ∧ rfF J S J S' := by
  by_cases h90 : I A 9 = 0
  · obtain ⟨H, s', r', c, ⟨g1, g1', g1'', g1'''⟩, ⟨i0, i1, i3, i4, i6⟩, ⟨m0, m1, m9, m10⟩, hsp, ⟨hed, heO⟩, hji, hjn, hje⟩ := hpc
    have er : r' = r := by omega
    have es : s' = s := by omega
    subst er es
    have hq : r' = 5 ∨ r' = 6 ∨ r' = 7 := by omega
    obtain ⟨a, J1, S1, c1, ⟨ha, c2, _⟩, c3, c4, c5, c6, c7⟩ := ro_C (d := d + 12) (A := A) (q := r') hq hr (ly_X11_4 hl0) hsw hR
    have e1 : ∀ b, b < 192 → J1 b = I b := c4
    obtain ⟨k1, k2, k3, k4, k5, k6, k7⟩ := c2
    have hln := ln_le hq
    have hE : cEd J1 A (r' + 1 + s') (eFn I p) (jFn I p) := by
      refine ⟨by rw [e1 A (by omega), i4]; omega, by omega, fun v b hv hb => ?_, fun v b hv hb => ?_, fun v b hv hb hj => ?_⟩
      · unfold eFn
        rw [e1 (A + 2) (by omega), show ((15 * (p : Int)) + (v : Int)).toNat = 15 * p + v by omega, hed v (by omega)]
      · unfold jFn
        rw [e1 (A + 3) (by omega), hjn v b (by omega) (by omega), jnM_sym]
      · unfold jFn at hj
        unfold eFn
        rw [show ((15 * (p : Int)) + (v : Int)).toNat = 15 * p + v by omega, hed v (by omega)]
        exact hje v b (by omega) (by omega) (by rw [jnM_sym]; exact hj)
    have hRo : rgO J1 S1 a (lnC r') := ⟨k3, hln.2, k4, fun k i h1 h2 => by
      rw [k6.1 k i h1 h2]
      exact swE_lt h1 h2, k7⟩
    have hl1' : LyX3 S1 A := LyX3_of hl1 (c5 A (by omega) (by omega))
    obtain ⟨J2, g, q1, q2, q3, q4, q5, q6, q7, q8, q9, q10⟩ := su_C (d := d) (a0 := A) (a1 := a) (F := r') (V := r' + 1 + s') (N := lnC r') (cd := cdI r') hl1' k1 hE (by rw [e1 A (by omega)]; exact hr) k2 (by omega) (by omega) hRo k5 ⟨by omega, fun j hj => by omega⟩
    have hcg := lvF_cg (led := ledC (J1 (a + 3)) (J1 (a + 4)) J1) (led' := ldL (r' : Int) (cdI r')) (N := lnC r') (fun rd f g c _ hc hfg hf => led_eq hq k6 hc hfg hf) (k := lnC r') (rd := 1) (f := g) (g := fun c => if lpE (eFn I p) (jFn I p) r' (r' + 1 + s') false (cdI r' c) = true then 0 else -1) (by decide) q5 (fun i hi => by rw [q5 i hi]; split <;> decide)
    have hfu := lvF_fuel (led := ldL (r' : Int) (cdI r')) (N := lnC r') (k := lnC r') (k' := 200) (rd := 1) (f := fun c => if lpE (eFn I p) (jFn I p) r' (r' + 1 + s') false (cdI r' c) = true then 0 else -1) (by decide) (umN_in _ _) (by omega)
    have hmx := lvL_mx (led := ldL (r' : Int) (cdI r')) (N := lnC r') (k := 200) (rd := 1) (f := fun c => if lpE (eFn I p) (jFn I p) r' (r' + 1 + s') false (cdI r' c) = true then 0 else -1) (by decide) (fun i hi => by show (if _ then (0 : Int) else -1) < 1; split <;> decide) (Or.inl rfl)
    have j171 : J2 171 = I 171 := by rw [q2 171 (by omega) (by omega) (by omega) (by omega) (by omega) (by omega)]; exact e1 171 (by omega)
    have j169 : J2 169 = I 169 := by rw [q2 169 (by omega) (by omega) (by omega) (by omega) (by omega) (by omega)]; exact e1 169 (by omega)
    have j170 : J2 170 = I 170 := by rw [q2 170 (by omega) (by omega) (by omega) (by omega) (by omega) (by omega)]; exact e1 170 (by omega)
    have lev : ∀ i, i < lnC r' → J2 (A + 5) i = I 171 (96 * p + i) := fun i hi => by
      rw [q6, hcg.1 i hi, hfu.1, hM.2.2.2 i hi]
      rfl
    refine ⟨J2, S1, w_X11_studied_0 (J1 := J1) (J2 := J2) (z1 := a) hl0 hl1 (fun _ => c1) (fun _ => LyX11_of hl0 c5 hTU.1.1 hTU.2.1 hTU.1.2 hTU.2.2) (fun _ => hl1') (fun _ => k1) (fun _ => q1) (r1 := fun _ => rfl) (e1 := fun w => absurd h90 w) (r2 := fun _ => rfl) (e2 := fun _ => rfl), ⟨q4, fun i hi => by rw [lev i hi, j171], ?_, ?_, ?_, ?_⟩, ⟨fun b b0 b1 b2 b3 b4 b5 b6 => by rw [q2 b b1 b2 b3 b4 b5 b6]; exact e1 b b0, fun k h1 h2 => by rw [q3 k h1 h2, e1 A (by omega)]⟩, ?_, ⟨fun b _ => rfl, c5, c6, c7⟩⟩
    · rw [q7, hcg.2.1, hfu.2, hmx]
      refine mxI_cg (fun i hi => ?_)
      rw [j171, hM.2.2.2 i hi]
      rfl
    · refine wdO_cg q8 (fun i hi => ?_)
      rw [j169, (hM.2.2.1 i hi).1]
      cases lpE (eFn I p) (jFn I p) r' (r' + 1 + s') false (cdI r' i) <;> rfl
    · refine wdO_cg q9 (fun i hi => ?_)
      rw [lev i hi, j171]
    · refine wdO_cg q10 (fun i hi => ?_)
      rw [j170, (hM.2.2.1 i hi).2, e1 A (by omega), i6, show ((20 * (p : Int)) + 10).toNat = 20 * p + 10 by omega, m10]
      cases decide (0 < (c : Int)) && lpE (eFn I p) (jFn I p) r' (r' + 1 + s') true (cdI r' i) <;> rfl
    · exact rgI_of c3 (fun b hb => q2 b (by omega) (by omega) (by omega) (by omega) (by omega) (by omega)) (fun b b1 b2 => q2 b (by omega) (by omega) (by omega) (by omega) (by omega) (by omega))
  · have ht := h9.resolve_left h90
    exact ⟨I, S, w_X11_studied_0 (J1 := I) (J2 := I) (S1 := S) (z1 := 0) hl0 hl1 (fun w => absurd w h90) (fun w => absurd w h90) (fun w => absurd w h90) (fun w => absurd w h90) (fun w => absurd w h90) (r1 := fun _ => rfl) (e1 := fun _ => rfl) (r2 := fun w => absurd w h90) (e2 := fun w => absurd w h90), ht, ⟨fun _ _ _ _ _ _ _ _ => rfl, fun _ _ _ => rfl⟩, hR, fun _ _ => rfl, fun _ _ _ => rfl, Nat.le_refl _, Nat.le_refl _⟩
end
end
