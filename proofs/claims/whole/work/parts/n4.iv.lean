/-! ===== what holds between calls ===== -/
noncomputable section
/-- an act and the rows behind (g) and ahead of it (g') -/
def acU (N R : Nat) (kd pl vl : Int) (g g' : Nat → Int) : Prop :=
  (kd = 0 ∧ ∃ s c : Nat, (s < N ∧ c < 4) ∧ (pl = (s : Int) ∧ vl = (c : Int)) ∧ g s = (c : Int) ∧ (∀ i, i < N → g' i = up1 g s (-1) i) ∧ ∀ j, j < R → g' (12 + j) = g (12 + j)) ∨
  (kd = 1 ∧ ∃ s c : Nat, (s < N ∧ c < 4) ∧ (pl = (s : Int) ∧ vl = (c : Int)) ∧ g s = -1 ∧ (∀ i, i < N → g' i = up1 g s (c : Int) i) ∧ ∀ j, j < R → g' (12 + j) = g (12 + j)) ∨
  (kd = 2 ∧ ∃ a b : Nat, (a < 4 ∧ b < 4 ∧ a ≠ b) ∧ vl = 4 * (a : Int) + (b : Int) ∧ (∀ i, i < N → g' i = xcG g N pl (a : Int) (b : Int) i) ∧ ∀ j, j < R → g' (12 + j) = g (12 + j)) ∨
  (kd = 3 ∧ ∃ r : Nat, r < R ∧ pl = (r : Int) ∧ (1 ≤ vl ∧ vl ≤ 99) ∧ (∀ i, i < N → g' i = g i) ∧ ∀ j, j < R → g' (12 + j) = if j = r then vl else g (12 + j))
theorem acU_cg {N R : Nat} {kd pl vl : Int} {g g' h h' : Nat → Int} (a : acU N R kd pl vl g g') (hg : ∀ i, i < N ∨ (12 ≤ i ∧ i < 12 + R) → h i = g i) (hg' : ∀ i, i < N ∨ (12 ≤ i ∧ i < 12 + R) → h' i = g' i) : acU N R kd pl vl h h' := by
  have u : ∀ (s i : Nat) (v : Int), i < N → up1 h s v i = up1 g s v i := fun s i v hi => by
    by_cases e : i = s
    · rw [e, up1_same, up1_same]
    · rw [up1_o _ e, up1_o _ e]; exact hg i (Or.inl hi)
  rcases a with ⟨k, s, c, h1, h2, h3, h4, h5⟩ | ⟨k, s, c, h1, h2, h3, h4, h5⟩ | ⟨k, s, c, h1, h2, h4, h5⟩ | ⟨k, r, h1, h2, h3, h4, h5⟩
  · exact Or.inl ⟨k, s, c, h1, h2, by rw [hg s (Or.inl h1.1)]; exact h3, fun i hi => by rw [hg' i (Or.inl hi), h4 i hi, u s i _ hi], fun j hj => by rw [hg' _ (Or.inr (by omega)), hg _ (Or.inr (by omega)), h5 j hj]⟩
  · exact Or.inr (Or.inl ⟨k, s, c, h1, h2, by rw [hg s (Or.inl h1.1)]; exact h3, fun i hi => by rw [hg' i (Or.inl hi), h4 i hi, u s i _ hi], fun j hj => by rw [hg' _ (Or.inr (by omega)), hg _ (Or.inr (by omega)), h5 j hj]⟩)
  · refine Or.inr (Or.inr (Or.inl ⟨k, s, c, h1, h2, fun i hi => ?_, fun j hj => by rw [hg' _ (Or.inr (by omega)), hg _ (Or.inr (by omega)), h5 j hj]⟩))
    rw [hg' i (Or.inl hi), h4 i hi]
    unfold xcG
    rw [hg i (Or.inl hi)]
  · exact Or.inr (Or.inr (Or.inr ⟨k, r, h1, h2, h3, fun i hi => by rw [hg' i (Or.inl hi), hg i (Or.inl hi), h4 i hi], fun j hj => by rw [hg' _ (Or.inr (by omega)), hg _ (Or.inr (by omega)), h5 j hj]⟩))
/-- the class's state s and the reference's: row, kept rows, notes, counts -/
def saR (I : Nat → Nat → Int) (s N R : Nat) (row kept nts : Nat → Int) (ac nn : Int) : Prop :=
  pnt (I (s + 2)) row N ∧ (∀ r, r < R → I (s + 3) r = row (12 + r) ∧ 1 ≤ row (12 + r) ∧ row (12 + r) ≤ 99) ∧
  (∃ a : Nat, a ≤ 30 ∧ I s 2 = (a : Int) ∧ ac = (a : Int) ∧ ∀ k, k < a → acU N R (I (s + 4) k) (I (s + 5) k) (I (s + 6) k) (fun j => if k + 1 < a then kept (18 * (k + 1) + j) else row j) (fun j => kept (18 * k + j))) ∧
  ∃ m : Nat, m ≤ 8 ∧ I s 6 = (m : Int) ∧ nn = (m : Int) ∧ ∀ i, i < m → (I (s + 7) i = nts (2 * i) ∧ 0 ≤ nts (2 * i) ∧ nts (2 * i) < (N : Int)) ∧ I (s + 8) i = nts (2 * i + 1) ∧ -999 ≤ nts (2 * i + 1) ∧ nts (2 * i + 1) ≤ 999
/-- whose parts a call may change freely -/
def scr (a : Nat) : Prop := a = 32 ∨ a = 122 ∨ a = 123 ∨ a = 124 ∨ a = 125 ∨ (144 ≤ a ∧ a ≤ 146) ∨ (148 ≤ a ∧ a ≤ 153) ∨ (162 ≤ a ∧ a ≤ 164) ∨ a = 166 ∨ (172 ≤ a ∧ a ≤ 177) ∨ (180 ≤ a ∧ a ≤ 185)
def cr (k : Nat) : Prop := k = 2 ∨ k = 4 ∨ k = 13 ∨ k = 14 ∨ k = 15 ∨ k = 41 ∨ (47 ≤ k ∧ k ≤ 49) ∨ k = 56 ∨ (59 ≤ k ∧ k ≤ 61)
def iL (S : PS) (T U : Nat) : Prop := LyX11 S T U ∧ LyX12 S ∧ ((T = 34 ∧ U = 77) ∨ (T = 77 ∧ U = 34))
def iT (I : Nat → Nat → Int) (n : Nat) : Prop := n ≤ 700 ∧ I 31 1 = (n : Int) ∧ I 156 2 = (n : Int) ∧ txR (I 33) (I 157)
def iF (I : Nat → Nat → Int) (c : Nat) : Prop := I 31 15 = I 156 4 ∧ ∀ j, j < 3 → I 155 j = I 158 j ∧ 0 ≤ I 158 j ∧ I 158 j ≤ (c : Int)
def iP (I : Nat → Nat → Int) (T P : Nat) : Prop := P ≤ 4 ∧ I T 1 = (P : Int) ∧ I 156 13 = (P : Int) ∧ ∀ p, p < P → pcR I (T + 7 + 9 * p) (I 159) (I 165) p ∧ ∃ r s : Nat, I (T + 7 + 9 * p) 3 = (r : Int) ∧ I (T + 7 + 9 * p) 1 = (s : Int) ∧ tbM I p r s ∧ (I (T + 7 + 9 * p) 9 = 0 ∨ tbC I (T + 7 + 9 * p) p r)
def iR (I : Nat → Nat → Int) (T R : Nat) : Prop := R ≤ 6 ∧ I (T + 2) 0 = (R : Int) ∧ I 156 14 = (R : Int) ∧ ∀ r, r < R → ruR I T (I 160) r
def iS (I : Nat → Nat → Int) (T N : Nat) : Prop := N ≤ 12 ∧ I T 6 = (N : Int) ∧ I 156 15 = (N : Int) ∧ (∀ s, s < N → stR I T (I 161) s) ∧ ∀ s k : Nat, s < N → (k : Int) < I 161 (10 * s) → I 161 (10 * s + 1 + k) < (N : Int)
def iA (I : Nat → Nat → Int) (N R : Nat) : Prop := saR I 126 N R (I 178) (I 179) (I 187) (I 156 41) (I 156 56)
def iI (I : Nat → Nat → Int) (N R : Nat) : Prop := I 31 8 = I 156 59 ∧ (I 156 59 = 0 ∨ (I 156 59 = 1 ∧ saR I 135 N R (I 188) (I 189) (I 190) (I 156 60) (I 156 61)))
def iN (I : Nat → Nat → Int) (c : Nat) : Prop := I 147 3 = 0 ∧ I 147 4 = I 156 48 ∧ I 147 5 = I 156 49 ∧ I 147 6 = I 156 47 ∧ (I 156 47 = 0 ∨ I 156 47 = 1) ∧ (0 ≤ I 156 48 ∧ I 156 48 ≤ 900 * (c : Int)) ∧ (I 156 47 = 1 → ∀ k, k < 4 → I 147 (8 + k) = I 186 k) ∧ (-1 ≤ I 156 49 ∧ I 156 49 ≤ 900 * (c : Int)) ∧ ∀ k, k < 8 → -100 ≤ I 154 k ∧ I 154 k ≤ 100
def iC (I : Nat → Nat → Int) : Prop := csO I 5 ∧ csO I 6 ∧ csO I 7
def iG (I : Nat → Nat → Int) (S : PS) : Prop := rgI I S ∧ (∀ no j : Nat, 1 ≤ no → no < 4 → I no j = (swE no j : Int) ∧ isI (I 0 j)) ∧ stC I ∧ strs I S
def iZ (S : PS) (c : Nat) : Prop := S.2.2.2.1 + 5 * rnN S ≤ 400 + c ∧ S.2.2.2.2 + 4745 * rnN S ≤ 60000 + 6 * c
/-- all of it; c calls were made -/
def IV (c T U n P R N : Nat) (I : Nat → Nat → Int) (S : PS) : Prop := iL S T U ∧ iT I n ∧ iF I c ∧ iP I T P ∧ iR I T R ∧ iS I T N ∧ iA I N R ∧ iI I N R ∧ iN I c ∧ iC I ∧ iG I S ∧ iZ S c
/-- what a question leaves alone -/
def fQ (U : Nat) (I J : Nat → Nat → Int) : Prop := (∀ a, a < 192 → ¬scr a → a ≠ 156 → a ≠ 178 → ¬(U ≤ a ∧ a < U + 43) → J a = I a) ∧ (∀ k, cr k → J 156 k = I 156 k) ∧ ∀ k, k < 18 → J 178 k = I 178 k
section
variable {I J K : Nat → Nat → Int} {S S' : PS} {c T U n P R N A p r s : Nat}
theorem saR_of {row kept nts row' kept' nts' : Nat → Int} {ac nn ac' nn' : Int} (h : saR I s N R row kept nts ac nn) (hN : N ≤ 12) (hR : R ≤ 6) (e0 : J s 2 = I s 2 ∧ J s 6 = I s 6) (e1 : ∀ a, s + 2 ≤ a → a < s + 9 → J a = I a) (er : ∀ k, k < 18 → row' k = row k) (ek : kept' = kept) (en : nts' = nts) (ea : ac' = ac) (em : nn' = nn) : saR J s N R row' kept' nts' ac' nn' := by
  obtain ⟨h1, h2, ⟨a, a1, a2, a3, a4⟩, m, m1, m2, m3, m4⟩ := h
  subst ek en ea em
  refine ⟨?_, fun r hr => ?_, ⟨a, a1, by rw [e0.1]; exact a2, a3, fun k hk => ?_⟩, m, m1, by rw [e0.2]; exact m2, m3, fun i hi => ?_⟩
  · rw [e1 (s + 2) (by omega) (by omega)]; exact pnt_ext h1 (fun i hi => (er i (by omega)).symm)
  · rw [e1 (s + 3) (by omega) (by omega), er _ (by omega)]; exact h2 r hr
  · rw [e1 (s + 4) (by omega) (by omega), e1 (s + 5) (by omega) (by omega), e1 (s + 6) (by omega) (by omega)]
    refine acU_cg (a4 k hk) (fun i hi => ?_) (fun i hi => rfl)
    by_cases q : k + 1 < a
    · rw [if_pos q, if_pos q]
    · rw [if_neg q, if_neg q]; exact er i (by omega)
  · rw [e1 (s + 7) (by omega) (by omega), e1 (s + 8) (by omega) (by omega)]; exact m4 i hi
theorem tbM_of (h : tbM I p r s) (e1 : J 159 = I 159) (e2 : J 165 = I 165) (e3 : J 167 = I 167) (e4 : J 168 = I 168) (e5 : J 169 = I 169) (e6 : J 170 = I 170) (e7 : J 171 = I 171) : tbM J p r s := by
  unfold tbM lv0 eFn jFn at h ⊢
  rw [e1, e2, e3, e4, e5, e6, e7]; exact h
theorem tbC_of (h : tbC I A p r) (e9 : J A 9 = I A 9) (e14 : J A 14 = I A 14) (e5 : J (A + 5) = I (A + 5)) (e6 : J (A + 6) = I (A + 6)) (e7 : J (A + 7) = I (A + 7)) (e8 : J (A + 8) = I (A + 8)) (f1 : J 169 = I 169) (f2 : J 170 = I 170) (f3 : J 171 = I 171) : tbC J A p r := by
  unfold tbC at h ⊢
  rw [e9, e14, e5, e6, e7, e8, f1, f2, f3]; exact h
theorem iT_q (h : iT I n) (hT : (T = 34 ∧ U = 77) ∨ (T = 77 ∧ U = 34)) (q : fQ U I J) : iT J n := by
  unfold iT at h ⊢
  rw [q.1 31 (by omega) (by unfold scr; omega) (by omega) (by omega) (by omega), q.2.1 2 (by unfold cr; omega), q.1 33 (by omega) (by unfold scr; omega) (by omega) (by omega) (by omega), q.1 157 (by omega) (by unfold scr; omega) (by omega) (by omega) (by omega)]
  exact h
theorem iF_q (h : iF I c) (hT : (T = 34 ∧ U = 77) ∨ (T = 77 ∧ U = 34)) (q : fQ U I J) : iF J c := by
  unfold iF at h ⊢
  rw [q.1 31 (by omega) (by unfold scr; omega) (by omega) (by omega) (by omega), q.2.1 4 (by unfold cr; omega), q.1 155 (by omega) (by unfold scr; omega) (by omega) (by omega) (by omega), q.1 158 (by omega) (by unfold scr; omega) (by omega) (by omega) (by omega)]
  exact h
theorem iP_q (h : iP I T P) (hT : (T = 34 ∧ U = 77) ∨ (T = 77 ∧ U = 34)) (q : fQ U I J) : iP J T P := by
  obtain ⟨h0, h1, h2, h3⟩ := h
  have c0 : ∀ a, 159 ≤ a → a < 172 → a ≠ 162 → a ≠ 163 → a ≠ 164 → a ≠ 166 → J a = I a := fun a b1 b2 b3 b4 b5 b6 => q.1 a (by omega) (by unfold scr; omega) (by omega) (by omega) (by omega)
  have cT : ∀ a, T ≤ a → a < T + 43 → J a = I a := fun a b1 b2 => q.1 a (by omega) (by unfold scr; omega) (by omega) (by omega) (by omega)
  refine ⟨h0, by rw [cT T (by omega) (by omega)]; exact h1, by rw [q.2.1 13 (by unfold cr; omega)]; exact h2, fun p hp => ?_⟩
  obtain ⟨g1, r, s, g2, g3, g4, g5⟩ := h3 p hp
  have e0 := cT (T + 7 + 9 * p) (by omega) (by omega)
  have ej : ∀ j, j < 9 → J (T + 7 + 9 * p + j) = I (T + 7 + 9 * p + j) := fun j hj => cT _ (by omega) (by omega)
  refine ⟨pc_frame g1 (fun k _ => by rw [e0]) (ej 1 (by omega)) (ej 2 (by omega)) (ej 3 (by omega)) (fun k _ _ => by rw [c0 159 (by omega) (by omega) (by omega) (by omega) (by omega) (by omega)]) (fun k _ _ => by rw [c0 165 (by omega) (by omega) (by omega) (by omega) (by omega) (by omega)]), r, s, by rw [e0]; exact g2, by rw [e0]; exact g3, tbM_of g4 (c0 _ (by omega) (by omega) (by omega) (by omega) (by omega) (by omega)) (c0 _ (by omega) (by omega) (by omega) (by omega) (by omega) (by omega)) (c0 _ (by omega) (by omega) (by omega) (by omega) (by omega) (by omega)) (c0 _ (by omega) (by omega) (by omega) (by omega) (by omega) (by omega)) (c0 _ (by omega) (by omega) (by omega) (by omega) (by omega) (by omega)) (c0 _ (by omega) (by omega) (by omega) (by omega) (by omega) (by omega)) (c0 _ (by omega) (by omega) (by omega) (by omega) (by omega) (by omega)), ?_⟩
  rcases g5 with g5 | g5
  · exact Or.inl (by rw [e0]; exact g5)
  · exact Or.inr (tbC_of g5 (by rw [e0]) (by rw [e0]) (ej 5 (by omega)) (ej 6 (by omega)) (ej 7 (by omega)) (ej 8 (by omega)) (c0 _ (by omega) (by omega) (by omega) (by omega) (by omega) (by omega)) (c0 _ (by omega) (by omega) (by omega) (by omega) (by omega) (by omega)) (c0 _ (by omega) (by omega) (by omega) (by omega) (by omega) (by omega)))
theorem iR_q (h : iR I T R) (hT : (T = 34 ∧ U = 77) ∨ (T = 77 ∧ U = 34)) (q : fQ U I J) : iR J T R := by
  unfold iR ruR at h ⊢
  rw [q.1 (T + 2) (by omega) (by unfold scr; omega) (by omega) (by omega) (by omega), q.2.1 14 (by unfold cr; omega), q.1 160 (by omega) (by unfold scr; omega) (by omega) (by omega) (by omega), q.1 (T + 3) (by omega) (by unfold scr; omega) (by omega) (by omega) (by omega)]
  exact h
theorem iS_q (h : iS I T N) (hT : (T = 34 ∧ U = 77) ∨ (T = 77 ∧ U = 34)) (q : fQ U I J) : iS J T N := by
  unfold iS stR at h ⊢
  rw [q.1 T (by omega) (by unfold scr; omega) (by omega) (by omega) (by omega), q.2.1 15 (by unfold cr; omega), q.1 161 (by omega) (by unfold scr; omega) (by omega) (by omega) (by omega), q.1 (T + 4) (by omega) (by unfold scr; omega) (by omega) (by omega) (by omega), q.1 (T + 5) (by omega) (by unfold scr; omega) (by omega) (by omega) (by omega), q.1 (T + 6) (by omega) (by unfold scr; omega) (by omega) (by omega) (by omega)]
  exact h
theorem iA_q (h : iA I N R) (hN : N ≤ 12) (hR : R ≤ 6) (hT : (T = 34 ∧ U = 77) ∨ (T = 77 ∧ U = 34)) (q : fQ U I J) : iA J N R :=
  have e : ∀ a, 126 ≤ a → a < 135 → J a = I a := fun a b1 b2 => q.1 a (by omega) (by unfold scr; omega) (by omega) (by omega) (by omega)
  saR_of h hN hR ⟨by rw [e 126 (by omega) (by omega)], by rw [e 126 (by omega) (by omega)]⟩ (fun a b1 b2 => e a (by omega) (by omega)) q.2.2 (q.1 179 (by omega) (by unfold scr; omega) (by omega) (by omega) (by omega)) (q.1 187 (by omega) (by unfold scr; omega) (by omega) (by omega) (by omega)) (q.2.1 41 (by unfold cr; omega)) (q.2.1 56 (by unfold cr; omega))
theorem iI_q (h : iI I N R) (hN : N ≤ 12) (hR : R ≤ 6) (hT : (T = 34 ∧ U = 77) ∨ (T = 77 ∧ U = 34)) (q : fQ U I J) : iI J N R := by
  have e : ∀ a, 135 ≤ a → a < 144 → J a = I a := fun a b1 b2 => q.1 a (by omega) (by unfold scr; omega) (by omega) (by omega) (by omega)
  have e9 : ∀ a, 188 ≤ a → a < 191 → J a = I a := fun a b1 b2 => q.1 a (by omega) (by unfold scr; omega) (by omega) (by omega) (by omega)
  obtain ⟨h1, h2⟩ := h
  refine ⟨by rw [q.1 31 (by omega) (by unfold scr; omega) (by omega) (by omega) (by omega), q.2.1 59 (by unfold cr; omega)]; exact h1, ?_⟩
  rw [q.2.1 59 (by unfold cr; omega)]
  rcases h2 with h2 | ⟨h2, h3⟩
  · exact Or.inl h2
  · exact Or.inr ⟨h2, saR_of h3 hN hR ⟨by rw [e 135 (by omega) (by omega)], by rw [e 135 (by omega) (by omega)]⟩ (fun a b1 b2 => e a (by omega) (by omega)) (fun k _ => by rw [e9 188 (by omega) (by omega)]) (e9 189 (by omega) (by omega)) (e9 190 (by omega) (by omega)) (q.2.1 60 (by unfold cr; omega)) (q.2.1 61 (by unfold cr; omega))⟩
theorem iN_q (h : iN I c) (hT : (T = 34 ∧ U = 77) ∨ (T = 77 ∧ U = 34)) (q : fQ U I J) : iN J c := by
  unfold iN at h ⊢
  rw [q.1 154 (by omega) (by unfold scr; omega) (by omega) (by omega) (by omega), q.1 147 (by omega) (by unfold scr; omega) (by omega) (by omega) (by omega), q.2.1 47 (by unfold cr; omega), q.2.1 48 (by unfold cr; omega), q.2.1 49 (by unfold cr; omega), q.1 186 (by omega) (by unfold scr; omega) (by omega) (by omega) (by omega)]
  exact h
theorem iC_e (h : iC I) (e1 : J 122 = I 122) (e2 : J 123 = I 123) : iC J := by
  unfold iC csO csR at h ⊢
  rw [e1, e2]
  exact h
theorem strs_S (h : strs I S) (hS : ∀ b, b < 192 → b ≠ 120 → S'.1 b = S.1 b) : strs I S' := by
  unfold strs isStr at h ⊢
  rw [hS 4 (by omega) (by omega), hS 6 (by omega) (by omega), hS 8 (by omega) (by omega), hS 10 (by omega) (by omega), hS 12 (by omega) (by omega), hS 14 (by omega) (by omega), hS 16 (by omega) (by omega), hS 18 (by omega) (by omega), hS 20 (by omega) (by omega), hS 22 (by omega) (by omega), hS 24 (by omega) (by omega), hS 26 (by omega) (by omega), hS 28 (by omega) (by omega)]
  exact h
theorem iG_q (h : iG I S) (hT : (T = 34 ∧ U = 77) ∨ (T = 77 ∧ U = 34)) (q : fQ U I J) (hR : rgI J S') (hS : ∀ b, b < 192 → b ≠ 120 → S'.1 b = S.1 b) : iG J S' := by
  obtain ⟨_, h2, h3, h4⟩ := h
  have e : ∀ a, a < 31 → J a = I a := fun a ha => q.1 a (by omega) (by unfold scr; omega) (by omega) (by omega) (by omega)
  exact ⟨hR, fun no j a b => by rw [e no (by omega), e 0 (by omega)]; exact h2 no j a b, stC_of h3 (fun a ha => e a (by omega)), strs_S (strs_of h4 (fun a ha => e a (by omega))) hS⟩
theorem iL_q (h : iL S T U) (hS : ∀ b, b < 192 → b ≠ 120 → S'.1 b = S.1 b) : iL S' T U := by
  obtain ⟨h1, h2, h3⟩ := h
  refine ⟨LyX11_of h1 hS (by omega) (by omega) (by omega) (by omega), ?_, h3⟩
  unfold LyX12 at h2 ⊢
  rw [hS 156 (by omega) (by omega)]
  exact h2
theorem iZ_q (h : iZ S c) {c' : Nat} (hc : c ≤ c') (h1 : S'.2.2.2.1 + 5 * rnN S' ≤ S.2.2.2.1 + 5 * rnN S + (c' - c)) (h2 : S'.2.2.2.2 + 4745 * rnN S' ≤ S.2.2.2.2 + 4745 * rnN S + 6 * (c' - c)) : iZ S' c' := by
  unfold iZ at h ⊢
  omega
theorem iF_c {c' : Nat} (h : iF I c) (hc : c ≤ c') : iF I c' := ⟨h.1, fun j hj => by have := h.2 j hj; omega⟩
theorem iN_c {c' : Nat} (h : iN I c) (hc : c ≤ c') : iN I c' := by
  obtain ⟨h1, h2, h3, h4, h5, h6, h7, h8, h9⟩ := h
  exact ⟨h1, h2, h3, h4, h5, by omega, h7, by omega, h9⟩
/-- what the out array holds is no part of it -/
theorem iT_9 (h : iT I n) (hT : (T = 34 ∧ U = 77) ∨ (T = 77 ∧ U = 34)) (f9 : ∀ a, a ≠ 191 → J a = I a) : iT J n := by
  unfold iT at h ⊢
  rw [f9 31 (by omega), (congrFun (f9 156 (by omega)) 2), f9 33 (by omega), f9 157 (by omega)]
  exact h
theorem iF_9 (h : iF I c) (hT : (T = 34 ∧ U = 77) ∨ (T = 77 ∧ U = 34)) (f9 : ∀ a, a ≠ 191 → J a = I a) : iF J c := by
  unfold iF at h ⊢
  rw [f9 31 (by omega), (congrFun (f9 156 (by omega)) 4), f9 155 (by omega), f9 158 (by omega)]
  exact h
theorem iP_9 (h : iP I T P) (hT : (T = 34 ∧ U = 77) ∨ (T = 77 ∧ U = 34)) (f9 : ∀ a, a ≠ 191 → J a = I a) : iP J T P := by
  obtain ⟨h0, h1, h2, h3⟩ := h
  have c0 : ∀ a, 159 ≤ a → a < 172 → a ≠ 162 → a ≠ 163 → a ≠ 164 → a ≠ 166 → J a = I a := fun a b1 b2 b3 b4 b5 b6 => f9 a (by omega)
  have cT : ∀ a, T ≤ a → a < T + 43 → J a = I a := fun a b1 b2 => f9 a (by omega)
  refine ⟨h0, by rw [cT T (by omega) (by omega)]; exact h1, by rw [(congrFun (f9 156 (by omega)) 13)]; exact h2, fun p hp => ?_⟩
  obtain ⟨g1, r, s, g2, g3, g4, g5⟩ := h3 p hp
  have e0 := cT (T + 7 + 9 * p) (by omega) (by omega)
  have ej : ∀ j, j < 9 → J (T + 7 + 9 * p + j) = I (T + 7 + 9 * p + j) := fun j hj => cT _ (by omega) (by omega)
  refine ⟨pc_frame g1 (fun k _ => by rw [e0]) (ej 1 (by omega)) (ej 2 (by omega)) (ej 3 (by omega)) (fun k _ _ => by rw [c0 159 (by omega) (by omega) (by omega) (by omega) (by omega) (by omega)]) (fun k _ _ => by rw [c0 165 (by omega) (by omega) (by omega) (by omega) (by omega) (by omega)]), r, s, by rw [e0]; exact g2, by rw [e0]; exact g3, tbM_of g4 (c0 _ (by omega) (by omega) (by omega) (by omega) (by omega) (by omega)) (c0 _ (by omega) (by omega) (by omega) (by omega) (by omega) (by omega)) (c0 _ (by omega) (by omega) (by omega) (by omega) (by omega) (by omega)) (c0 _ (by omega) (by omega) (by omega) (by omega) (by omega) (by omega)) (c0 _ (by omega) (by omega) (by omega) (by omega) (by omega) (by omega)) (c0 _ (by omega) (by omega) (by omega) (by omega) (by omega) (by omega)) (c0 _ (by omega) (by omega) (by omega) (by omega) (by omega) (by omega)), ?_⟩
  rcases g5 with g5 | g5
  · exact Or.inl (by rw [e0]; exact g5)
  · exact Or.inr (tbC_of g5 (by rw [e0]) (by rw [e0]) (ej 5 (by omega)) (ej 6 (by omega)) (ej 7 (by omega)) (ej 8 (by omega)) (c0 _ (by omega) (by omega) (by omega) (by omega) (by omega) (by omega)) (c0 _ (by omega) (by omega) (by omega) (by omega) (by omega) (by omega)) (c0 _ (by omega) (by omega) (by omega) (by omega) (by omega) (by omega)))
theorem iR_9 (h : iR I T R) (hT : (T = 34 ∧ U = 77) ∨ (T = 77 ∧ U = 34)) (f9 : ∀ a, a ≠ 191 → J a = I a) : iR J T R := by
  unfold iR ruR at h ⊢
  rw [f9 (T + 2) (by omega), (congrFun (f9 156 (by omega)) 14), f9 160 (by omega), f9 (T + 3) (by omega)]
  exact h
theorem iS_9 (h : iS I T N) (hT : (T = 34 ∧ U = 77) ∨ (T = 77 ∧ U = 34)) (f9 : ∀ a, a ≠ 191 → J a = I a) : iS J T N := by
  unfold iS stR at h ⊢
  rw [f9 T (by omega), (congrFun (f9 156 (by omega)) 15), f9 161 (by omega), f9 (T + 4) (by omega), f9 (T + 5) (by omega), f9 (T + 6) (by omega)]
  exact h
theorem iA_9 (h : iA I N R) (hN : N ≤ 12) (hR : R ≤ 6) (hT : (T = 34 ∧ U = 77) ∨ (T = 77 ∧ U = 34)) (f9 : ∀ a, a ≠ 191 → J a = I a) : iA J N R :=
  have e : ∀ a, 126 ≤ a → a < 135 → J a = I a := fun a b1 b2 => f9 a (by omega)
  saR_of h hN hR ⟨by rw [e 126 (by omega) (by omega)], by rw [e 126 (by omega) (by omega)]⟩ (fun a b1 b2 => e a (by omega) (by omega)) (fun k _ => congrFun (f9 178 (by omega)) k) (f9 179 (by omega)) (f9 187 (by omega)) ((congrFun (f9 156 (by omega)) 41)) ((congrFun (f9 156 (by omega)) 56))
theorem iI_9 (h : iI I N R) (hN : N ≤ 12) (hR : R ≤ 6) (hT : (T = 34 ∧ U = 77) ∨ (T = 77 ∧ U = 34)) (f9 : ∀ a, a ≠ 191 → J a = I a) : iI J N R := by
  have e : ∀ a, 135 ≤ a → a < 144 → J a = I a := fun a b1 b2 => f9 a (by omega)
  have e9 : ∀ a, 188 ≤ a → a < 191 → J a = I a := fun a b1 b2 => f9 a (by omega)
  obtain ⟨h1, h2⟩ := h
  refine ⟨by rw [f9 31 (by omega), (congrFun (f9 156 (by omega)) 59)]; exact h1, ?_⟩
  rw [(congrFun (f9 156 (by omega)) 59)]
  rcases h2 with h2 | ⟨h2, h3⟩
  · exact Or.inl h2
  · exact Or.inr ⟨h2, saR_of h3 hN hR ⟨by rw [e 135 (by omega) (by omega)], by rw [e 135 (by omega) (by omega)]⟩ (fun a b1 b2 => e a (by omega) (by omega)) (fun k _ => by rw [e9 188 (by omega) (by omega)]) (e9 189 (by omega) (by omega)) (e9 190 (by omega) (by omega)) ((congrFun (f9 156 (by omega)) 60)) ((congrFun (f9 156 (by omega)) 61))⟩
theorem iN_9 (h : iN I c) (hT : (T = 34 ∧ U = 77) ∨ (T = 77 ∧ U = 34)) (f9 : ∀ a, a ≠ 191 → J a = I a) : iN J c := by
  unfold iN at h ⊢
  rw [f9 154 (by omega), f9 147 (by omega), (congrFun (f9 156 (by omega)) 47), (congrFun (f9 156 (by omega)) 48), (congrFun (f9 156 (by omega)) 49), f9 186 (by omega)]
  exact h
theorem IV_191 (h : IV c T U n P R N I S) (f9 : ∀ a, a ≠ 191 → J a = I a) : IV c T U n P R N J S := by
  obtain ⟨a1, a2, a3, a4, a5, a6, a7, a8, a9, a10, a11, a12⟩ := h
  have hT := a1.2.2
  obtain ⟨b1, b2, b3, b4⟩ := a11
  exact ⟨a1, iT_9 a2 hT f9, iF_9 a3 hT f9, iP_9 a4 hT f9, iR_9 a5 hT f9, iS_9 a6 hT f9, iA_9 a7 a6.1 a5.1 hT f9, iI_9 a8 a6.1 a5.1 hT f9, iN_9 a9 hT f9, iC_e a10 (f9 122 (by omega)) (f9 123 (by omega)), ⟨rgI_of b1 (fun b hb => f9 b (by omega)) (fun b b1 b2 => f9 b (by omega)), fun no j a b => by rw [f9 no (by omega), f9 0 (by omega)]; exact b2 no j a b, stC_of b3 (fun a ha => f9 a (by omega)), strs_of b4 (fun a ha => f9 a (by omega))⟩, a12⟩
/-- behind a question -/
theorem IV_q (h : IV c T U n P R N I S) (q : fQ U I J) (hC : iC J) (hR : rgI J S') (hS : ∀ b, b < 192 → b ≠ 120 → S'.1 b = S.1 b) (h1 : S'.2.2.2.1 + 5 * rnN S' ≤ S.2.2.2.1 + 5 * rnN S + 1) (h2 : S'.2.2.2.2 + 4745 * rnN S' ≤ S.2.2.2.2 + 4745 * rnN S + 6) : IV (c + 1) T U n P R N J S' := by
  obtain ⟨a1, a2, a3, a4, a5, a6, a7, a8, a9, a10, a11, a12⟩ := h
  have hT := a1.2.2
  exact ⟨iL_q a1 hS, iT_q a2 hT q, iF_c (iF_q a3 hT q) (by omega), iP_q a4 hT q, iR_q a5 hT q, iS_q a6 hT q, iA_q a7 a6.1 a5.1 hT q, iI_q a8 a6.1 a5.1 hT q, iN_c (iN_q a9 hT q) (by omega), hC, iG_q a11 hT q hR hS, iZ_q a12 (by omega) (by omega) (by omega)⟩
end
end
