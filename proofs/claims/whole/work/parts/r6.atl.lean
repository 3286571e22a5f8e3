/-! ===== the atlas: the reference lays it out ===== -/
noncomputable section
theorem Ev_det {d : Nat} {mi : Nat × Nat} {cf : PCf} {r1 r2 : PO × PM} (h1 : Ev d mi cf r1) (h2 : Ev d mi cf r2) : r1 = r2 := by
  obtain ⟨n1, a⟩ := h1
  obtain ⟨n2, b⟩ := h2
  have a' := run_le (Nat.le_max_left n1 n2) a
  have b' := run_le (Nat.le_max_right n1 n2) b
  exact Option.some.inj (a'.symm.trans b')
/-- a piece of the reference, as laying it out asks -/
def pqR (M : Nat → Int) (p r s : Nat) : Prop := (r = 5 ∨ r = 6 ∨ r = 7) ∧ s ≤ 7 ∧ M (20 * p + 9) = (r : Int) ∧ M (20 * p + 1) = (s : Int) ∧ 0 ≤ M (20 * p + 10) ∧ M (20 * p + 10) ≤ 4
def okB (a i : Nat) : Prop := a ≠ 172 ∧ a ≠ 173 ∧ a ≠ 174 ∧ a ≠ 175 ∧ a ≠ 176 ∧ ¬(a = 156 ∧ i = 37) ∧ a ≠ 167 ∧ a ≠ 168 ∧ a ≠ 169 ∧ a ≠ 170 ∧ a ≠ 171
def ltF (I J : Nat → Nat → Int) : Prop := ∀ a i, okB a i → J a i = I a i
section
variable {d : Nat} {I J K X Y Z : Nat → Nat → Int} {S S' : PS} {c T U n P R N p r s m q : Nat} {x1 : Int}
theorem sh_pw (hr : r = 5 ∨ r = 6 ∨ r = 7) : p_shl 1 (2 * (r : Int)) = ((4 ^ r : Nat) : Int) := by
  rcases hr with rfl | rfl | rfl <;> decide
theorem lp_tb (hl0 : LyX12 S) (hp : p < 4) (h : pqR (I 159) p r s) : ∃ J, Ca (d + 7) mX12_laysPiece [vR (some (22, 0, 156)), vI (p : Int)] (I, S) (.inl none) (J, S) ∧ lpF p I J ∧ tbM J p r s := by
  obtain ⟨hr, hs, h9, h1, h10⟩ := h
  have i9 : ((20 * (p : Int)) + 9).toNat = 20 * p + 9 := by omega
  have i1 : ((20 * (p : Int)) + 1).toNat = 20 * p + 1 := by omega
  have i10 : ((20 * (p : Int)) + 10).toNat = 20 * p + 10 := by omega
  have hln := ln_96 hr
  obtain ⟨J, j1, j2, j3, j4, j5, j6⟩ := lp_M (d := d) (S := S) (I := I) (p := p) (F := r) (V := r + 1 + s) (N := lnC r) (A := 4 ^ r) (ed := eFn I p) (jn := jFn I p) (cd := cdI r) hl0 hp ⟨by omega, by omega, by rw [i10]; exact h10, fun v a _ _ => rfl, fun v a _ _ => rfl⟩ (by rw [i9]; exact h9) (by omega) (by rw [i1, h1]; omega) (by rw [i1, h1]; omega) (by omega) (pw_le hr) (sh_pw hr) (cn_end hr) (fun i hi => ⟨cdN r i, cl_lt hr (cd_mem hi), (good_in hr (cl_lt hr (cd_mem hi))).mpr (cd_mem hi), cn_at hr hi, rfl⟩) (fun c hc => ldG_ok hr (cd_mem hc))
  have e159 : J 159 = I 159 := funext (fun i => j2 159 i (by unfold okA; omega))
  have e165 : J 165 = I 165 := funext (fun i => j2 165 i (by unfold okA; omega))
  have eE : eFn J p = eFn I p := by funext v a; unfold eFn; rw [e165]
  have eJ : jFn J p = jFn I p := by funext v a; unfold jFn; rw [e159]
  refine ⟨J, j1, j2, ?_⟩
  unfold tbM lv0
  rw [eE, eJ, e159]
  exact ⟨j3, j4, j5, j6⟩
theorem tb_keep (h : tbM I p r s) (hF : lpF q I J) (hpq : p ≠ q) (hr : r = 5 ∨ r = 6 ∨ r = 7) : tbM J p r s := by
  have hln := ln_96 hr
  have e159 : J 159 = I 159 := funext (fun i => hF 159 i (by unfold okA; omega))
  have e165 : J 165 = I 165 := funext (fun i => hF 165 i (by unfold okA; omega))
  have eE : eFn J p = eFn I p := by funext v a; unfold eFn; rw [e165]
  have eJ : jFn J p = jFn I p := by funext v a; unfold jFn; rw [e159]
  have o : ∀ a i, (a = 168 ∨ a = 169 ∨ a = 170 ∨ a = 171) → i < lnC r → J a (96 * p + i) = I a (96 * p + i) := fun a i ha hi => hF a _ (by unfold okA; omega)
  obtain ⟨h1, h2, h3, h4⟩ := h
  refine ⟨by rw [hF 167 p (by unfold okA; omega)]; exact h1, fun i hi => by rw [o 168 i (by omega) hi]; exact h2 i hi, fun i hi => ?_, fun i hi => ?_⟩
  · rw [o 169 i (by omega) hi, o 170 i (by omega) hi, eE, eJ, e159]; exact h3 i hi
  · have := h4 i hi
    unfold lv0 at this ⊢
    rw [o 171 i (by omega) hi, eE, eJ]; exact this
theorem lp_278 (hl0 : LyX12 S) (hP : P ≤ 4) : ∀ (t k : Nat) (X : Nat → Nat → Int), k + t = P → X 156 13 = (P : Int) → (∀ p, p < P → ∃ r s, pqR (X 159) p r s) → (∀ p r s, p < k → pqR (X 159) p r s → tbM X p r s) → ∃ K, ltF X K ∧ (∀ p r s, p < P → pqR (X 159) p r s → tbM K p r s) ∧ ∀ v h1, L_X12_atlas_297 d 156 x1 (P : Int) K S v h1 → L_X12_atlas_278 d 156 x1 (k : Int) X S v h1 := by
  intro t
  induction t with
  | zero =>
    intro k X hk h13 _ htb
    have hkP : k = P := by omega
    subst hkP
    exact ⟨X, fun _ _ _ => rfl, htb, fun v h1 kk => w_X12_atlas_278 (J1 := X) hl0 (fun _ => kk) (fun q => absurd q (by omega)) (fun q => absurd q (by omega)) (v1 := fun q => absurd q (by omega))⟩
  | succ t ih =>
    intro k X hk h13 hpq htb
    obtain ⟨r, s, hrs⟩ := hpq k (by omega)
    obtain ⟨J, j1, j2, j3⟩ := lp_tb (d := d) (S := S) hl0 (show k < 4 by omega) hrs
    have e159 : J 159 = X 159 := funext (fun i => j2 159 i (by unfold okA; omega))
    have e13 : J 156 13 = X 156 13 := j2 156 13 (by unfold okA; omega)
    obtain ⟨K, k1, k2, k3⟩ := ih (k + 1) J (by omega) (by rw [e13]; exact h13) (by rw [e159]; exact hpq) (fun p r' s' hp hq => by
      rw [e159] at hq
      by_cases e : p = k
      · subst e
        have a1 := hq.2.2.1
        have a2 := hrs.2.2.1
        have b1 := hq.2.2.2.1
        have b2 := hrs.2.2.2.1
        have er : r' = r := by omega
        have es : s' = s := by omega
        rw [er, es]; exact j3
      · exact tb_keep (htb p r' s' (by omega) hq) j2 e hq.1)
    rw [e159] at k2
    refine ⟨K, fun a i hi => ?_, k2, fun v h1 kk => w_X12_atlas_278 (J1 := J) hl0 (fun q => absurd q (by omega)) (fun _ => j1) (fun _ => ?_) (v1 := fun _ => by omega)⟩
    · rw [k1 a i hi]
      exact j2 a i (by unfold okB at hi; unfold okA; omega)
    · have := k3 v h1 kk
      rw [show ((k + 1 : Nat) : Int) = (k : Int) + 1 by omega] at this
      exact this
theorem at_213 (hl0 : LyX12 S) : ∀ (t k : Nat) (X : Nat → Nat → Int), k + t = 12 → (∀ i, i < k → X 178 i = -1) → ∃ K, (∀ a, a ≠ 178 → K a = X a) ∧ (∀ i, i < 12 → K 178 i = -1) ∧ ∀ v h1, L_X12_atlas_234 d 156 x1 0 K S v h1 → L_X12_atlas_213 d 156 x1 (k : Int) X S v h1 := by
  intro t
  induction t with
  | zero =>
    intro k X hk hi
    exact ⟨X, fun _ _ => rfl, fun i h => hi i (by omega), fun v h1 kk => w_X12_atlas_213 hl0 (fun _ => kk) (fun q => absurd q (by omega)) (v1 := fun q => absurd q (by omega)) (v2 := fun q => absurd q (by omega))⟩
  | succ t ih =>
    intro k X hk hi
    obtain ⟨K, k1, k2, k3⟩ := ih (k + 1) (up2 X 178 k (-1)) (by omega) (fun i h => by
      by_cases e : i = k
      · rw [e, up2_same]
      · rw [up2_k _ e]; exact hi i (by omega))
    refine ⟨K, fun a ha => by rw [k1 a ha]; exact funext (fun j => up2_a _ ha), k2, fun v h1 kk => w_X12_atlas_213 hl0 (fun q => absurd q (by omega)) (fun _ => ?_) (v1 := fun _ => by omega) (v2 := fun _ => by omega)⟩
    have := k3 v h1 kk
    rw [show ((k + 1 : Nat) : Int) = (k : Int) + 1 by omega] at this
    rw [Int.toNat_natCast]
    exact this
theorem at_234 (hl0 : LyX12 S) : ∀ (t k : Nat) (X : Nat → Nat → Int), k + t = 6 → X 156 14 = (R : Int) → (∀ i, i < k → X 178 (12 + i) = if R ≤ i then 0 else X 160 (8 * i)) → ∃ K, (∀ a, a ≠ 178 → K a = X a) ∧ (∀ i, i < 12 → K 178 i = X 178 i) ∧ (∀ i, i < 6 → K 178 (12 + i) = if R ≤ i then 0 else X 160 (8 * i)) ∧ ∀ v h1, L_X12_atlas_278 d 156 x1 0 K S v h1 → L_X12_atlas_234 d 156 x1 (k : Int) X S v h1 := by
  intro t
  induction t with
  | zero =>
    intro k X hk _ hi
    exact ⟨X, fun _ _ => rfl, fun _ _ => rfl, fun i h => hi i (by omega), fun v h1 kk => w_X12_atlas_234 hl0 (fun _ => kk) (fun q => absurd q (by omega)) (v1 := fun q => absurd q (by omega)) (v2 := fun q => absurd q (by omega)) (v3 := fun q => absurd q (by omega)) (v4 := fun q => absurd q (by omega)) (v5 := fun q => absurd q (by omega))⟩
  | succ t ih =>
    intro k X hk h14 hi
    obtain ⟨w, hw⟩ : ∃ w : Int, w = if X 156 14 ≤ (k : Int) then (0 : Int) else X 160 (8 * (k : Int)).toNat := ⟨_, rfl⟩
    have hw2 : w = if R ≤ k then 0 else X 160 (8 * k) := by
      rw [hw, h14, show (8 * (k : Int)).toNat = 8 * k by omega]
      by_cases q : R ≤ k
      · rw [if_pos q, if_pos (by omega)]
      · rw [if_neg q, if_neg (by omega)]
    obtain ⟨K, k1, k2, k3, k4⟩ := ih (k + 1) (up2 X 178 (12 + k) w) (by omega) (by rw [up2_a _ (by decide)]; exact h14) (fun i h => by
      have e160 : up2 X 178 (12 + k) w 160 = X 160 := funext (fun j => up2_a _ (by decide))
      rw [e160]
      by_cases e : i = k
      · rw [e, up2_same]; exact hw2
      · rw [up2_k _ (by omega)]; exact hi i (by omega))
    have e160 : up2 X 178 (12 + k) w 160 = X 160 := funext (fun j => up2_a _ (by decide))
    rw [e160] at k3
    refine ⟨K, fun a ha => by rw [k1 a ha]; exact funext (fun j => up2_a _ ha), fun i h => by rw [k2 i h, up2_k _ (by omega)], k3, fun v h1 kk => w_X12_atlas_234 hl0 (fun q => absurd q (by omega)) (fun _ => ?_) (v1 := fun _ => by omega) (v2 := fun _ _ => by omega) (v3 := fun _ _ => by omega) (v4 := fun _ => by omega) (v5 := fun _ => by omega)⟩
    have := k4 v h1 kk
    rw [show ((k + 1 : Nat) : Int) = (k : Int) + 1 by omega] at this
    rw [show (12 + (k : Int)).toNat = 12 + k by omega, ← hw]
    exact this
/-- what laying an atlas out leaves -/
def alQ (K M : Nat → Nat → Int) (P R N : Nat) : Prop := (M 156 13 = (P : Int) ∧ M 156 14 = (R : Int) ∧ M 156 15 = (N : Int) ∧ M 156 41 = 0 ∧ M 156 56 = 0 ∧ M 156 59 = 0 ∧ M 156 47 = 0 ∧ M 156 49 = -1) ∧ (∀ k, k ≠ 13 → k ≠ 14 → k ≠ 15 → k ≠ 37 → k ≠ 41 → k ≠ 56 → k ≠ 59 → k ≠ 47 → k ≠ 49 → M 156 k = K 156 k) ∧ (∀ k, k < 80 → M 159 k = K 162 k) ∧ (∀ k, k < 48 → M 160 k = K 163 k) ∧ (∀ k, k < 120 → M 161 k = K 164 k) ∧ (∀ k, k < 60 → M 165 k = K 166 k) ∧ (∀ i, i < 12 → M 178 i = -1) ∧ (∀ i, i < 6 → M 178 (12 + i) = if R ≤ i then 0 else K 163 (8 * i)) ∧ (∀ p r s, p < P → pqR (K 162) p r s → tbM M p r s) ∧ ∀ a, a ≠ 156 → a ≠ 159 → a ≠ 160 → a ≠ 161 → a ≠ 165 → ¬(167 ≤ a ∧ a ≤ 178) → M a = K a
theorem pqR_e {M M' : Nat → Int} (h : pqR M p r s) (hp : p < 4) (e : ∀ k, k < 80 → M' k = M k) : pqR M' p r s := by
  unfold pqR at h ⊢
  rw [e _ (by omega), e _ (by omega), e _ (by omega)]
  exact h
theorem al_M (hl0 : LyX12 S) (h16 : K 156 16 = (P : Int)) (h17 : K 156 17 = (R : Int)) (h18 : K 156 18 = (N : Int)) (hP : P ≤ 4) (hpq : ∀ p, p < P → ∃ r s, pqR (K 162) p r s) : ∃ M, L_X12_atlas_139 d 156 x1 K S 0 (M, S) ∧ alQ K M P R N := by
  have s1 : ∃ Z, (∀ a, a ≠ 156 → a ≠ 159 → a ≠ 160 → Z a = K a) ∧ (Z 156 13 = K 156 16 ∧ Z 156 14 = K 156 17 ∧ Z 156 15 = K 156 18) ∧ (∀ k, k ≠ 13 → k ≠ 14 → k ≠ 15 → Z 156 k = K 156 k) ∧ (∀ k, k < 80 → Z 159 k = K 162 k) ∧ (∀ k, k < 48 → Z 160 k = K 163 k) ∧ ∀ v h1, L_X12_atlas_187 d 156 x1 Z S v h1 → L_X12_atlas_139 d 156 x1 K S v h1 := by
    obtain ⟨A, hA⟩ : ∃ A, A = up2 (up2 (up2 K 156 13 (K 156 16)) 156 14 (K 156 17)) 156 15 (K 156 18) := ⟨_, rfl⟩
    have ao : ∀ a, a ≠ 156 → A a = K a := fun a h => by rw [hA]; exact funext (fun j => by rw [up2_a _ h, up2_a _ h, up2_a _ h])
    refine ⟨up1 (up1 A 159 (upTo (A 159) (A 162) 0 80)) 160 (upTo ((up1 A 159 (upTo (A 159) (A 162) 0 80)) 160) ((up1 A 159 (upTo (A 159) (A 162) 0 80)) 163) 0 48), fun a h1 h2 h3 => ?_, ⟨?_, ?_, ?_⟩, fun k h1 h2 h3 => ?_, fun k hk => ?_, fun k hk => ?_, fun v h1 kk => w_X12_atlas_139 hl0 (by rw [← hA]; exact kk)⟩
    · rw [up1_o _ h3, up1_o _ h2]; exact ao a h1
    · rw [up1_o _ (by decide), up1_o _ (by decide), hA, up2_k _ (by decide), up2_k _ (by decide), up2_same]
    · rw [up1_o _ (by decide), up1_o _ (by decide), hA, up2_k _ (by decide), up2_same]
    · rw [up1_o _ (by decide), up1_o _ (by decide), hA, up2_same]
    · rw [up1_o _ (by decide), up1_o _ (by decide), hA, up2_k _ h3, up2_k _ h2, up2_k _ h1]
    · rw [up1_o _ (by decide), up1_same, upTo_in (by omega), ao 162 (by decide)]
    · rw [up1_same, upTo_in (by omega), up1_o _ (by decide), ao 163 (by decide)]
  obtain ⟨Z, z1, ⟨z13, z14, z15⟩, zk, z159, z160, zgo⟩ := s1
  have s2 : ∃ V, (∀ a, a ≠ 161 → a ≠ 165 → V a = Z a) ∧ (∀ k, k < 120 → V 161 k = Z 164 k) ∧ (∀ k, k < 60 → V 165 k = Z 166 k) ∧ ∀ v h1, L_X12_atlas_213 d 156 x1 0 V S v h1 → L_X12_atlas_187 d 156 x1 Z S v h1 := by
    refine ⟨up1 (up1 Z 161 (upTo (Z 161) (Z 164) 0 120)) 165 (upTo ((up1 Z 161 (upTo (Z 161) (Z 164) 0 120)) 165) ((up1 Z 161 (upTo (Z 161) (Z 164) 0 120)) 166) 0 60), fun a h1 h2 => ?_, fun k hk => ?_, fun k hk => ?_, fun v h1 kk => w_X12_atlas_187 hl0 (w_X12_atlas_211 hl0 kk)⟩
    · rw [up1_o _ h2, up1_o _ h1]
    · rw [up1_o _ (by decide), up1_same, upTo_in (by omega)]
    · rw [up1_same, upTo_in (by omega), up1_o _ (by decide)]
  obtain ⟨V, v1, v161, v165, vgo⟩ := s2
  obtain ⟨W, w1, w178, wgo⟩ := at_213 (d := d) (x1 := x1) (S := S) hl0 12 0 V rfl (fun i h => absurd h (by omega))
  have w156 : W 156 = Z 156 := by rw [w1 156 (by decide), v1 156 (by decide) (by decide)]
  obtain ⟨Q, q1, q178, q12, qgo⟩ := at_234 (d := d) (x1 := x1) (S := S) (R := R) hl0 6 0 W rfl (by rw [w156, z14]; exact h17) (fun i h => absurd h (by omega))
  have e160 : W 160 = Z 160 := by rw [w1 160 (by decide), v1 160 (by decide) (by decide)]
  have q159 : Q 159 = Z 159 := by rw [q1 159 (by decide), w1 159 (by decide), v1 159 (by decide) (by decide)]
  have q156 : Q 156 = Z 156 := by rw [q1 156 (by decide), w156]
  obtain ⟨M, m1, m2, m3⟩ := lp_278 (d := d) (x1 := x1) (S := S) (P := P) hl0 hP P 0 Q (by omega) (by rw [q156, z13]; exact h16) (fun p hp => by
    obtain ⟨r, s, h⟩ := hpq p hp
    exact ⟨r, s, by rw [q159]; exact pqR_e h (by omega) z159⟩) (fun p r s hp => absurd hp (by omega))
  have mo : ∀ a i, okB a i → M a i = Q a i := m1
  have m156 : ∀ k, k ≠ 37 → M 156 k = Z 156 k := fun k hk => by rw [mo 156 k (by unfold okB; omega), q156]
  obtain ⟨H, hH⟩ : ∃ H, H = up2 (up2 (up2 (up2 (up2 M 156 41 0) 156 56 0) 156 59 0) 156 47 0) 156 49 (-1) := ⟨_, rfl⟩
  have ho : ∀ a, a ≠ 156 → H a = M a := fun a h => by rw [hH]; exact funext (fun j => by rw [up2_a _ h, up2_a _ h, up2_a _ h, up2_a _ h, up2_a _ h])
  have hk : ∀ k, k ≠ 41 → k ≠ 56 → k ≠ 59 → k ≠ 47 → k ≠ 49 → H 156 k = M 156 k := fun k a1 a2 a3 a4 a5 => by rw [hH, up2_k _ a5, up2_k _ a4, up2_k _ a3, up2_k _ a2, up2_k _ a1]
  have q4 : ∀ a, a ≠ 156 → a ≠ 159 → a ≠ 160 → a ≠ 161 → a ≠ 165 → a ≠ 178 → Q a = K a := fun a a1 a2 a3 a4 a5 a6 => by rw [q1 a a6, w1 a a6, v1 a a4 a5, z1 a a1 a2 a3]
  refine ⟨H, zgo _ _ (vgo _ _ (wgo _ _ (qgo _ _ (m3 _ _ (w_X12_atlas_297 hl0 rfl (e1 := by rw [← hH])))))), ⟨?_, ?_, ?_, ?_, ?_, ?_, ?_, ?_⟩, fun k a1 a2 a3 a4 a5 a6 a7 a8 a9 => ?_, fun k hk' => ?_, fun k hk' => ?_, fun k hk' => ?_, fun k hk' => ?_, fun i hi => ?_, fun i hi => ?_, fun p r s hp h => ?_, fun a a1 a2 a3 a4 a5 a6 => ?_⟩
  · rw [hk 13 (by decide) (by decide) (by decide) (by decide) (by decide), m156 13 (by decide), z13]; exact h16
  · rw [hk 14 (by decide) (by decide) (by decide) (by decide) (by decide), m156 14 (by decide), z14]; exact h17
  · rw [hk 15 (by decide) (by decide) (by decide) (by decide) (by decide), m156 15 (by decide), z15]; exact h18
  · rw [hH, up2_k _ (by decide), up2_k _ (by decide), up2_k _ (by decide), up2_k _ (by decide), up2_same]
  · rw [hH, up2_k _ (by decide), up2_k _ (by decide), up2_k _ (by decide), up2_same]
  · rw [hH, up2_k _ (by decide), up2_k _ (by decide), up2_same]
  · rw [hH, up2_k _ (by decide), up2_same]
  · rw [hH, up2_same]
  · rw [hk k a5 a6 a7 a8 a9, m156 k a4, zk k a1 a2 a3]
  · rw [ho 159 (by decide), mo 159 k (by unfold okB; omega), q159, z159 k hk']
  · rw [ho 160 (by decide), mo 160 k (by unfold okB; omega), q1 160 (by decide), e160, z160 k hk']
  · rw [ho 161 (by decide), mo 161 k (by unfold okB; omega), q1 161 (by decide), w1 161 (by decide), v161 k hk', z1 164 (by decide) (by decide) (by decide)]
  · rw [ho 165 (by decide), mo 165 k (by unfold okB; omega), q1 165 (by decide), w1 165 (by decide), v165 k hk', z1 166 (by decide) (by decide) (by decide)]
  · rw [ho 178 (by decide), mo 178 i (by unfold okB; omega), q178 i hi, w178 i hi]
  · rw [ho 178 (by decide), mo 178 (12 + i) (by unfold okB; omega), q12 i hi, e160]
    by_cases q : R ≤ i
    · rw [if_pos q, if_pos q]
    · rw [if_neg q, if_neg q, z160 _ (by omega)]
  · have h2 : pqR (Q 159) p r s := by rw [q159]; exact pqR_e h (by omega) z159
    have h3 := m2 p r s hp h2
    exact tbM_of h3 (ho 159 (by decide)) (ho 165 (by decide)) (ho 167 (by decide)) (ho 168 (by decide)) (ho 169 (by decide)) (ho 170 (by decide)) (ho 171 (by decide))
  · rw [ho a a1]
    funext i
    rw [mo a i (by unfold okB; omega), q4 a a1 a2 a3 a4 a5 (by omega)]
end
end
