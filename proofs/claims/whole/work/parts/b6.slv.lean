/-! ===== the reference's search: all painted ===== -/
noncomputable section
theorem gR_0 (I : Nat → Nat → Int) (k : Nat) : gR I 0 k = I 178 k := by
  unfold gR
  rw [show ((0 : Int) + (k : Int)).toNat = k by omega]
theorem gR_18 (I : Nat → Nat → Int) (k : Nat) : gR I 18 k = I 178 (18 + k) := by
  unfold gR
  rw [show ((18 : Int) + (k : Int)).toNat = 18 + k by omega]
/-- o lists the first m spots of those below k that aren't painted -/
def opQ (g : Nat → Int) (k m : Nat) (o : Nat → Int) : Prop := m ≤ k ∧ (∀ j, j < m → 0 ≤ o j ∧ o j < k ∧ g (o j).toNat = -1) ∧ (∀ i j, i < j → j < m → o i < o j) ∧ ∀ i, i < k → g i = -1 → ∃ j, j < m ∧ o j = (i : Int)
theorem opS_ok (I : Nat → Nat → Int) : ∀ k : Nat, opQ (I 178) k (opS I k).1.toNat (opS I k).2
  | 0 => ⟨Nat.le_refl 0, fun j h => absurd h (by show ¬(j < 0); omega), fun i j _ h => absurd h (by show ¬(j < 0); omega), fun i h => absurd h (by omega)⟩
  | k + 1 => by
    obtain ⟨h1, h2, h3, h4⟩ := opS_ok I k
    have hb := opS_le I k
    have hs : opS I (k + 1) = if I 178 k = -1 then ((opS I k).1 + 1, up1 (opS I k).2 (opS I k).1.toNat k) else opS I k := rfl
    by_cases hc : I 178 k = -1
    · rw [hs, if_pos hc]
      have e : ((opS I k).1 + 1).toNat = (opS I k).1.toNat + 1 := by omega
      refine ⟨by show ((opS I k).1 + 1).toNat ≤ k + 1; omega, fun j hj => ?_, fun i j hij hj => ?_, fun i hi hg => ?_⟩
      · have hj : j < ((opS I k).1 + 1).toNat := hj
        show 0 ≤ up1 (opS I k).2 (opS I k).1.toNat (k : Int) j ∧ up1 (opS I k).2 (opS I k).1.toNat (k : Int) j < ((k + 1 : Nat) : Int) ∧ I 178 (up1 (opS I k).2 (opS I k).1.toNat (k : Int) j).toNat = -1
        by_cases q : j = (opS I k).1.toNat
        · rw [q, up1_same]
          exact ⟨by omega, by omega, by rw [Int.toNat_natCast]; exact hc⟩
        · rw [up1_o _ q]
          have := h2 j (by omega)
          exact ⟨this.1, by omega, this.2.2⟩
      · have hj : j < ((opS I k).1 + 1).toNat := hj
        show up1 (opS I k).2 (opS I k).1.toNat (k : Int) i < up1 (opS I k).2 (opS I k).1.toNat (k : Int) j
        by_cases q : j = (opS I k).1.toNat
        · rw [q, up1_same, up1_o _ (by omega)]
          exact (h2 i (by omega)).2.1
        · rw [up1_o _ q, up1_o _ (by omega)]
          exact h3 i j hij (by omega)
      · show ∃ j, j < ((opS I k).1 + 1).toNat ∧ up1 (opS I k).2 (opS I k).1.toNat (k : Int) j = (i : Int)
        by_cases q : i = k
        · exact ⟨(opS I k).1.toNat, by omega, by rw [up1_same, q]⟩
        · obtain ⟨j, w1, w2⟩ := h4 i (by omega) hg
          exact ⟨j, by omega, by rw [up1_o _ (by omega)]; exact w2⟩
    · rw [hs, if_neg hc]
      refine ⟨by omega, fun j hj => ?_, h3, fun i hi hg => ?_⟩
      · have := h2 j hj
        exact ⟨this.1, by omega, this.2.2⟩
      · by_cases q : i = k
        · rw [q] at hg; exact absurd hg hc
        · exact h4 i (by omega) hg
/-- the ways over a list of spots -/
def fwO (adj : Nat → Nat → Bool) (n : Nat) (o : Nat → Nat) : Nat → Nat → (Nat → Int) → Option (Nat → Int)
  | 0, _, g => some g
  | j + 1, e, g => foS (fun c => if frP adj g n (o e) (c : Int) = true then fwO adj n o j (e + 1) (up1 g (o e) (c : Int)) else none) 4 0
def ctO (adj : Nat → Nat → Bool) (n : Nat) (o : Nat → Nat) : Nat → Nat → (Nat → Int) → Int
  | 0, _, _ => 1
  | j + 1, e, g => smI (fun c => if frP adj g n (o e) (c : Int) = true then ctO adj n o j (e + 1) (up1 g (o e) (c : Int)) else 0) 4
def opR (o : Nat → Nat) (m n s e : Nat) (g : Nat → Int) : Prop := e ≤ m ∧ (∀ k, e ≤ k → k < m → s ≤ o k ∧ o k < n ∧ g (o k) = -1) ∧ (∀ i k, i < k → k < m → o i < o k) ∧ ∀ i, s ≤ i → i < n → g i = -1 → ∃ k, e ≤ k ∧ k < m ∧ o k = i
section
variable {adj : Nat → Nat → Bool} {n m : Nat} {o : Nat → Nat}
theorem opR_skip {s e : Nat} {g : Nat → Int} (h : opR o m n s e g) (hg : g s ≠ -1) : opR o m n (s + 1) e g := by
  obtain ⟨h1, h2, h3, h4⟩ := h
  refine ⟨h1, fun k hk hm => ?_, h3, fun i hi hn => h4 i (by omega) hn⟩
  have := h2 k hk hm
  refine ⟨?_, this.2⟩
  by_cases q : o k = s
  · rw [q] at this; exact absurd this.2.2 hg
  · omega
theorem opR_at {s e : Nat} {g : Nat → Int} (h : opR o m n s e g) (hs : s < n) (hg : g s = -1) : e < m ∧ o e = s := by
  obtain ⟨h1, h2, h3, h4⟩ := h
  obtain ⟨k, w1, w2, w3⟩ := h4 s (Nat.le_refl s) hs hg
  by_cases q : e = k
  · rw [q]; exact ⟨w2, w3⟩
  · have := h3 e k (by omega) w2
    have := h2 e (Nat.le_refl e) (by omega)
    omega
theorem opR_next {s e : Nat} {g : Nat → Int} (h : opR o m n s e g) (hs : s < n) (hg : g s = -1) (c : Int) : opR o m n (s + 1) (e + 1) (up1 g s c) := by
  obtain ⟨q1, q2⟩ := opR_at h hs hg
  obtain ⟨h1, h2, h3, h4⟩ := h
  refine ⟨by omega, fun k hk hm => ?_, h3, fun i hi hn hc => ?_⟩
  · have := h2 k (by omega) hm
    have h5 := h3 e k (by omega) hm
    refine ⟨by omega, this.2.1, ?_⟩
    rw [up1_o _ (by omega)]
    exact this.2.2
  · rw [up1_o _ (by omega)] at hc
    obtain ⟨k, w1, w2, w3⟩ := h4 i (by omega) hn hc
    refine ⟨k, ?_, w2, w3⟩
    by_cases q : k = e
    · rw [q] at w3; omega
    · omega
theorem ct_link : ∀ (j s e : Nat) (g : Nat → Int), s + j = n → opR o m n s e g → ctW adj n j s g = ctO adj n o (m - e) e g
  | 0, s, e, g, hs, h => by
    have : m - e = 0 := by
      by_cases q : e < m
      · have := h.2.1 e (Nat.le_refl e) q; omega
      · omega
    rw [this]; rfl
  | j + 1, s, e, g, hs, h => by
    show (if g s ≠ -1 then ctW adj n j (s + 1) g else smI _ 4) = _
    by_cases hg : g s ≠ -1
    · rw [if_pos hg]
      exact ct_link j (s + 1) e g (by omega) (opR_skip h hg)
    · rw [if_neg hg]
      have hg : g s = -1 := Classical.byContradiction hg
      obtain ⟨q1, q2⟩ := opR_at h (by omega) hg
      rw [show m - e = (m - (e + 1)) + 1 by omega]
      show _ = smI _ 4
      congr 1
      funext c
      rw [q2, ct_link j (s + 1) (e + 1) (up1 g s (c : Int)) (by omega) (opR_next h (by omega) hg _)]
theorem fw_link : ∀ (j s e : Nat) (g : Nat → Int), s + j = n → opR o m n s e g → fwS adj n j s g = fwO adj n o (m - e) e g
  | 0, s, e, g, hs, h => by
    have : m - e = 0 := by
      by_cases q : e < m
      · have := h.2.1 e (Nat.le_refl e) q; omega
      · omega
    rw [this]; rfl
  | j + 1, s, e, g, hs, h => by
    show (if g s ≠ -1 then fwS adj n j (s + 1) g else foS _ 4 0) = _
    by_cases hg : g s ≠ -1
    · rw [if_pos hg]
      exact fw_link j (s + 1) e g (by omega) (opR_skip h hg)
    · rw [if_neg hg]
      have hg : g s = -1 := Classical.byContradiction hg
      obtain ⟨q1, q2⟩ := opR_at h (by omega) hg
      rw [show m - e = (m - (e + 1)) + 1 by omega]
      show _ = foS _ 4 0
      congr 1
      funext c
      rw [q2, fw_link j (s + 1) (e + 1) (up1 g s (c : Int)) (by omega) (opR_next h (by omega) hg _)]
theorem smI_nn {g : Nat → Int} (h : ∀ k, 0 ≤ g k) : ∀ n : Nat, 0 ≤ smI g n
  | 0 => Int.le_refl 0
  | k + 1 => by
    have := smI_nn h k
    have := h k
    unfold smI
    omega
theorem ctO_in : ∀ (j e : Nat) (g : Nat → Int), 0 ≤ ctO adj n o j e g
  | 0, _, _ => by show (0 : Int) ≤ 1; decide
  | j + 1, e, g => by
    refine smI_nn (fun c => ?_) 4
    have := ctO_in j (e + 1) (up1 g (o e) (c : Int))
    split <;> omega
/-- the rest of a sum -/
def tlI (H : Nat → Int) : Nat → Nat → Int
  | 0, _ => 0
  | q + 1, c => H c + tlI H q (c + 1)
theorem tlI_4 (H : Nat → Int) : tlI H 4 0 = smI H 4 := by
  show H 0 + (H 1 + (H 2 + (H 3 + 0))) = 0 + H 0 + H 1 + H 2 + H 3
  omega
theorem tlI_nn {H : Nat → Int} (h : ∀ c, 0 ≤ H c) : ∀ q c, 0 ≤ tlI H q c
  | 0, _ => Int.le_refl 0
  | q + 1, c => by
    have := h c
    have := tlI_nn h q (c + 1)
    unfold tlI
    omega
variable {S : PS} {I0 : Nat → Nat → Int}
/-- what stays while all is tried -/
def svF (I0 J : Nat → Nat → Int) : Prop := (∀ a, a ≠ 178 → a ≠ 181 → J a = I0 a) ∧ ∀ i, i < 18 → J 178 i = I0 178 i
theorem svF_step {J : Nat → Nat → Int} {e i : Nat} {x y : Int} (h : svF I0 J) : svF I0 (up2 (up2 J 178 (18 + i) x) 181 e y) := by
  refine ⟨fun a h1 h2 => ?_, fun k hk => ?_⟩
  · funext k
    rw [up2_a _ h2, up2_a _ h1, h.1 a h1 h2]
  · rw [up2_a _ (by decide), up2_k _ (by omega)]
    exact h.2 k hk
theorem svF_row {J : Nat → Nat → Int} {i : Nat} {x : Int} (h : svF I0 J) : svF I0 (up2 J 178 (18 + i) x) := by
  refine ⟨fun a h1 h2 => ?_, fun k hk => ?_⟩
  · funext k
    rw [up2_a _ h1, h.1 a h1 h2]
  · rw [up2_k _ (by omega)]
    exact h.2 k hk
theorem svF_pick {J : Nat → Nat → Int} {e : Nat} {y : Int} (h : svF I0 J) : svF I0 (up2 J 181 e y) := by
  refine ⟨fun a h1 h2 => ?_, fun k hk => ?_⟩
  · funext k
    rw [up2_a _ h2, h.1 a h1 h2]
  · rw [up2_a _ (by decide)]
    exact h.2 k hk
/-- the open spots as they are laid out -/
def svO (I0 : Nat → Nat → Int) (n m : Nat) (o : Nat → Nat) : Prop := I0 156 44 = (m : Int) ∧ m ≤ n ∧ (∀ k, k < m → I0 180 k = (o k : Int) ∧ o k < n) ∧ ∀ i k, i < k → k < m → o i < o k
def svA (J : Nat → Nat → Int) (e i : Nat) (c : Int) : Nat → Nat → Int := up2 (up2 J 178 (18 + i) (-1)) 181 e c
def svL (J : Nat → Nat → Int) (e i : Nat) (c : Int) : Nat → Nat → Int := up2 (svA J e i c) 178 (18 + i) c
def svD (J : Nat → Nat → Int) (e i : Nat) (c : Int) : Nat → Nat → Int := up2 (svL J e i c) 181 (e + 1) (-1)
theorem sv_fA {J : Nat → Nat → Int} {gg : Nat → Int} {e : Nat} {c : Int} (hF : svF I0 J) (hg : ∀ i, i < n → i ≠ o e → gR J 18 i = gg i) (hge : gg (o e) = -1) : svF I0 (svA J e (o e) c) ∧ (∀ i, i < n → gR (svA J e (o e) c) 18 i = gg i) ∧ (∀ k, k < e → svA J e (o e) c 181 k = J 181 k) ∧ svA J e (o e) c 181 e = c := by
  unfold svA
  refine ⟨svF_step hF, fun i hi => ?_, fun k hk => ?_, up2_same _ _ _ _⟩
  · rw [gR_18, up2_a _ (by decide)]
    by_cases q : i = o e
    · rw [q, up2_same, hge]
    · rw [up2_k _ (by omega), ← gR_18 J i]; exact hg i hi q
  · rw [up2_k _ (by omega), up2_a _ (by decide)]
theorem sv_fL {J : Nat → Nat → Int} {gg : Nat → Int} {e : Nat} {c : Int} (hF : svF I0 J) (hg : ∀ i, i < n → i ≠ o e → gR J 18 i = gg i) (hge : gg (o e) = -1) : svF I0 (svL J e (o e) c) ∧ (∀ i, i < n → gR (svL J e (o e) c) 18 i = up1 gg (o e) c i) ∧ (∀ k, k < e → svL J e (o e) c 181 k = J 181 k) ∧ svL J e (o e) c 181 e = c := by
  obtain ⟨h1, h2, h3, h4⟩ := sv_fA (c := c) hF hg hge
  unfold svL
  refine ⟨svF_row h1, fun i hi => ?_, fun k hk => ?_, ?_⟩
  · rw [gR_18]
    by_cases q : i = o e
    · rw [q, up2_same, up1_same]
    · rw [up2_k _ (by omega), up1_o _ q, ← gR_18 (svA J e (o e) c) i]; exact h2 i hi
  · rw [up2_a _ (by decide)]; exact h3 k hk
  · rw [up2_a _ (by decide)]; exact h4
theorem sv_fD {J : Nat → Nat → Int} {gg : Nat → Int} {e : Nat} {c : Int} (hF : svF I0 J) (hg : ∀ i, i < n → i ≠ o e → gR J 18 i = gg i) (hge : gg (o e) = -1) : svF I0 (svD J e (o e) c) ∧ (∀ i, i < n → gR (svD J e (o e) c) 18 i = up1 gg (o e) c i) ∧ (∀ k, k < e → svD J e (o e) c 181 k = J 181 k) ∧ svD J e (o e) c 181 e = c ∧ svD J e (o e) c 181 (e + 1) = -1 := by
  obtain ⟨h1, h2, h3, h4⟩ := sv_fL (c := c) hF hg hge
  unfold svD
  refine ⟨svF_pick h1, fun i hi => ?_, fun k hk => ?_, ?_, up2_same _ _ _ _⟩
  · rw [gR_18, up2_a _ (by decide), ← gR_18 (svL J e (o e) c) i]; exact h2 i hi
  · rw [up2_k _ (by omega)]; exact h3 k hk
  · rw [up2_k _ (by omega)]; exact h4
theorem sv_step {d : Nat} {b1 : Prop} [Decidable b1] (hl0 : LyX12 S) (hA : mAd I0 n adj) (hO : svO I0 n m o) {e c : Nat} {J : Nat → Nat → Int} {gg : Nat → Int} {x2 v : Int} {h1 : PM} (he : e < m) (hc : c ≤ 4) (hF : svF I0 J) (hg : ∀ i, i < n → i ≠ o e → gR J 18 i = gg i) (hge : gg (o e) = -1) (hok : rOk gg n) (hp : J 181 e = (c : Int) - 1) (hx : 0 ≤ x2 ∧ x2 ≤ 16777216)
    (kd : c ≤ 3 → frP adj gg n (o e) (c : Int) = true → e + 1 < m → L_X12_solves_24 d 156 (if b1 then (1 : Int) else 0) x2 ((e : Int) + 1) (svD J e (o e) (c : Int)) S v h1)
    (kl : c ≤ 3 → frP adj gg n (o e) (c : Int) = true → e + 1 = m → ¬b1 → L_X12_solves_24 d 156 (if b1 then (1 : Int) else 0) (x2 + 1) (e : Int) (svL J e (o e) (c : Int)) S v h1)
    (kf : c ≤ 3 → frP adj gg n (o e) (c : Int) = true → e + 1 = m → b1 → x2 + 1 = v ∧ (svL J e (o e) (c : Int), S) = h1)
    (kn : c ≤ 3 → ¬(frP adj gg n (o e) (c : Int) = true) → L_X12_solves_24 d 156 (if b1 then (1 : Int) else 0) x2 (e : Int) (svA J e (o e) (c : Int)) S v h1)
    (kb : c = 4 → L_X12_solves_24 d 156 (if b1 then (1 : Int) else 0) x2 ((e : Int) - 1) (svA J e (o e) (c : Int)) S v h1) : L_X12_solves_24 d 156 (if b1 then (1 : Int) else 0) x2 (e : Int) J S v h1 := by
  have hn := hA.2.1
  have hoe := hO.2.2.1 e he
  have ho : J 180 (e : Int).toNat = (o e : Int) := by rw [hF.1 180 (by decide) (by decide), Int.toNat_natCast]; exact hoe.1
  have hm : J 156 44 = (m : Int) := by rw [hF.1 156 (by decide) (by decide)]; exact hO.1
  have hmn := hO.2.1
  have hA0 : mAd J n adj := mAd_of hA (by rw [hF.1 156 (by decide) (by decide)]) (hF.1 161 (by decide) (by decide))
  have hp2 : J 181 (e : Int).toNat = (c : Int) - 1 := by rw [Int.toNat_natCast]; exact hp
  obtain ⟨J1, hJ1⟩ : ∃ J1, J1 = up2 (up2 J 178 ((18 + (J 180 (e : Int).toNat)).toNat) (-1)) 181 ((e : Int).toNat) (J 181 (e : Int).toNat + 1) := ⟨_, rfl⟩
  have hJ2 : J1 = svA J e (o e) (c : Int) := by
    rw [hJ1, ho, hp2, Int.toNat_natCast, show ((18 : Int) + (o e : Int)).toNat = 18 + o e by omega, show (c : Int) - 1 + 1 = (c : Int) by omega]
    rfl
  obtain ⟨hF1, hg1, hpk, hpe0⟩ := sv_fA (c := (c : Int)) hF hg hge
  rw [← hJ2] at hF1 hg1 hpk hpe0
  have hA1 : mAd J1 n adj := mAd_of hA (by rw [hF1.1 156 (by decide) (by decide)]) (hF1.1 161 (by decide) (by decide))
  have hpe : J1 181 (e : Int).toNat = (c : Int) := by rw [Int.toNat_natCast]; exact hpe0
  have hok1 : rOk (gR J1 18) n := fun i hi => by rw [hg1 i hi]; exact hok i hi
  have h161 : J 161 = J1 161 := by rw [hF.1 161 (by decide) (by decide), hF1.1 161 (by decide) (by decide)]
  have hfr : c ≤ 3 → (p_and (p_shr (frF J1 18 (J 180 (e : Int).toNat) (J 161 (10 * (J 180 (e : Int).toNat)).toNat).toNat) (J1 181 (e : Int).toNat)) 1 = 1 ↔ frP adj gg n (o e) (c : Int) = true) := fun h3 => by
    rw [ho, hpe, h161, frF_tst hA1 hoe.2 hok1 (by omega), frP_congr hg1]
  have hdeg : 0 ≤ J 161 (10 * (J 180 (e : Int).toNat)).toNat ∧ J 161 (10 * (J 180 (e : Int).toNat)).toNat ≤ 9 := by
    rw [ho]; have := mAd_deg hA0 hoe.2; omega
  have hnb : ∀ k : Nat, (k : Int) < J 161 (10 * (J 180 (e : Int).toNat)).toNat → 0 ≤ J 161 (((10 * (J 180 (e : Int).toNat)) + 1) + (k : Int)).toNat ∧ J 161 (((10 * (J 180 (e : Int).toNat)) + 1) + (k : Int)).toNat < 12 := fun k hk => by
    rw [ho] at hk ⊢; have := mAd_nb hA0 hoe.2 hk; omega
  have hrow2 : ∀ x, up2 J1 178 ((18 + (J 180 (e : Int).toNat)).toNat) x = up2 J1 178 (18 + o e) x := fun x => by
    rw [ho, show ((18 : Int) + (o e : Int)).toNat = 18 + o e by omega]
  have hL : up2 J1 178 (18 + o e) (c : Int) = svL J e (o e) (c : Int) := by rw [hJ2]; rfl
  refine w_X12_solves_24 hl0 (fun _ q1 q2 q3 => ?_) (fun _ q1 q2 q3 q4 => ?_) (fun _ q1 q2 => ?_) (fun _ q1 => ?_) (fun h => absurd h (by omega)) (e1 := fun h => absurd h (by omega)) (r2 := fun _ q1 q2 q3 q4 => ?_) (e2 := fun _ q1 q2 q3 q4 => ?_) (v8 := fun _ _ _ => hnb)
  · rw [← hJ1] at q1 q2 ⊢
    rw [hpe] at q1
    have q2 := (hfr (by omega)).mp q2.2
    rw [hpe, hrow2, show ((e : Int) + 1).toNat = e + 1 by omega, hL]
    exact kd (by omega) q2 (by omega)
  · rw [← hJ1] at q1 q2 ⊢
    rw [hpe] at q1
    have q2 := (hfr (by omega)).mp q2.2
    rw [hpe, hrow2, hL]
    exact kl (by omega) q2 (by omega) q4
  · rw [← hJ1] at q1 q2 ⊢
    rw [hpe] at q1
    have := kn (by omega) (fun w => q2 ⟨by rw [hpe]; omega, (hfr (by omega)).mpr w⟩)
    rw [← hJ2] at this
    exact this
  · rw [← hJ1] at q1 ⊢
    rw [hpe] at q1
    have := kb (by omega)
    rw [← hJ2] at this
    exact this
  · rw [← hJ1] at q1 q2
    rw [hpe] at q1
    have q2 := (hfr (by omega)).mp q2.2
    exact (kf (by omega) q2 (by omega) q4).1
  · rw [← hJ1] at q1 q2 ⊢
    rw [hpe] at q1
    have q2 := (hfr (by omega)).mp q2.2
    rw [hpe, hrow2, hL]
    exact (kf (by omega) q2 (by omega) q4).2
def svH (adj : Nat → Nat → Bool) (n : Nat) (o : Nat → Nat) (j e : Nat) (g : Nat → Int) (c : Nat) : Int := if frP adj g n (o e) (c : Int) = true then ctO adj n o j (e + 1) (up1 g (o e) (c : Int)) else 0
theorem svH_nn {j e : Nat} {g : Nat → Int} (c : Nat) : 0 ≤ svH adj n o j e g c := by
  have := ctO_in (adj := adj) (n := n) (o := o) j (e + 1) (up1 g (o e) (c : Int))
  unfold svH
  split <;> omega
theorem sv_up {e k c : Nat} {gg : Nat → Int} (hO : svO I0 n m o) (hk : e < k) (hkm : k < m) (hg : gg (o k) = -1) : up1 gg (o e) (c : Int) (o k) = -1 := by
  have := hO.2.2.2 e k hk hkm
  rw [up1_o _ (by omega)]; exact hg
theorem rOk_up {s c : Nat} {gg : Nat → Int} (h : rOk gg n) (hc : c ≤ 3) : rOk (up1 gg s (c : Int)) n := fun i hi => by
  by_cases q : i = s
  · rw [q, up1_same]; omega
  · rw [up1_o _ q]; exact h i hi
theorem sv_cnt {d : Nat} {b1 : Prop} [Decidable b1] (hb : ¬b1) (hl0 : LyX12 S) (hA : mAd I0 n adj) (hO : svO I0 n m o) : ∀ (j e : Nat), j + 1 + e = m → ∀ (q c : Nat), q + c = 4 → ∀ (J : Nat → Nat → Int) (gg : Nat → Int) (x2 : Int), svF I0 J → (∀ i, i < n → i ≠ o e → gR J 18 i = gg i) → (∀ k, e ≤ k → k < m → gg (o k) = -1) → rOk gg n → J 181 e = (c : Int) - 1 → 0 ≤ x2 → x2 + tlI (svH adj n o j e gg) q c ≤ 16777216 → ∃ J', svF I0 J' ∧ (∀ i, i < n → gR J' 18 i = gg i) ∧ (∀ k, k < e → J' 181 k = J 181 k) ∧ ∀ (v : Int) (h1 : PM), L_X12_solves_24 d 156 (if b1 then (1 : Int) else 0) (x2 + tlI (svH adj n o j e gg) q c) ((e : Int) - 1) J' S v h1 → L_X12_solves_24 d 156 (if b1 then (1 : Int) else 0) x2 (e : Int) J S v h1 := by
  intro j
  induction j using Nat.strongRecOn with
  | _ j ihj =>
    intro e hje q
    induction q with
    | zero =>
      intro c hq J gg x2 hF hg hge hok hp hx hB
      have hc4 : c = 4 := by omega
      have hB : x2 + 0 ≤ 16777216 := hB
      obtain ⟨f1, f2, f3, f4⟩ := sv_fA (c := (c : Int)) hF hg (hge e (Nat.le_refl e) (by omega))
      refine ⟨_, f1, f2, f3, fun v h1 hk => sv_step hl0 hA hO (by omega) (by omega) hF hg (hge e (Nat.le_refl e) (by omega)) hok hp (by omega) (fun h => absurd h (by omega)) (fun h => absurd h (by omega)) (fun h => absurd h (by omega)) (fun h => absurd h (by omega)) (fun _ => ?_)⟩
      rw [show x2 + tlI (svH adj n o j e gg) 0 c = x2 from Int.add_zero x2] at hk
      exact hk
    | succ q ihq =>
      intro c hq J gg x2 hF hg hge hok hp hx hB
      have hge0 := hge e (Nat.le_refl e) (by omega)
      have htl : tlI (svH adj n o j e gg) (q + 1) c = svH adj n o j e gg c + tlI (svH adj n o j e gg) q (c + 1) := rfl
      have hnn := tlI_nn (H := svH adj n o j e gg) svH_nn q (c + 1)
      have hHn := svH_nn (adj := adj) (n := n) (o := o) (j := j) (e := e) (g := gg) c
      rw [htl] at hB ⊢
      by_cases hf : frP adj gg n (o e) (c : Int) = true
      · by_cases hj0 : j = 0
        · subst hj0
          obtain ⟨f1, f2, f3, f4⟩ := sv_fL (c := (c : Int)) hF hg hge0
          have hHc : svH adj n o 0 e gg c = 1 := by unfold svH; rw [if_pos hf]; rfl
          rw [hHc] at hB ⊢
          obtain ⟨J2, k1, k2, k3, k4⟩ := ihq (c + 1) (by omega) _ gg (x2 + 1) f1 (fun i hi hne => by rw [f2 i hi, up1_o _ hne]) hge hok (by rw [f4]; omega) (by omega) (by omega)
          refine ⟨J2, k1, k2, fun k hk5 => by rw [k3 k hk5, f3 k hk5], fun v h1 hk => sv_step hl0 hA hO (by omega) (by omega) hF hg hge0 hok hp (by omega) (fun _ _ h => absurd h (by omega)) (fun _ _ _ _ => k4 v h1 ?_) (fun _ _ _ h => absurd h hb) (fun _ h => absurd hf h) (fun h => absurd h (by omega))⟩
          rw [Int.add_assoc]
          exact hk
        · obtain ⟨j', rfl⟩ : ∃ j', j = j' + 1 := ⟨j - 1, by omega⟩
          obtain ⟨f1, f2, f3, f4, f5⟩ := sv_fD (c := (c : Int)) hF hg hge0
          have hHc : svH adj n o (j' + 1) e gg c = tlI (svH adj n o j' (e + 1) (up1 gg (o e) (c : Int))) 4 0 := by
            rw [tlI_4]
            unfold svH
            rw [if_pos hf]
            rfl
          obtain ⟨J', g1, g2, g3, g4⟩ := ihj j' (by omega) (e + 1) (by omega) 4 0 rfl (svD J e (o e) (c : Int)) (up1 gg (o e) (c : Int)) x2 f1 (fun i hi _ => f2 i hi) (fun k hk1 hk2 => sv_up hO (by omega) hk2 (hge k (by omega) hk2)) (rOk_up hok (by omega)) (by rw [f5]; rfl) hx (by rw [← hHc]; omega)
          rw [← hHc] at g4
          obtain ⟨J2, k1, k2, k3, k4⟩ := ihq (c + 1) (by omega) J' gg (x2 + svH adj n o (j' + 1) e gg c) g1 (fun i hi hne => by rw [g2 i hi, up1_o _ hne]) hge hok (by rw [g3 e (by omega), f4]; omega) (by omega) (by omega)
          refine ⟨J2, k1, k2, fun k hk5 => by rw [k3 k hk5, g3 k (by omega), f3 k hk5], fun v h1 hk => sv_step hl0 hA hO (by omega) (by omega) hF hg hge0 hok hp (by omega) (fun _ _ _ => g4 v h1 ?_) (fun _ _ h => absurd h (by omega)) (fun _ _ h => absurd h (by omega)) (fun _ h => absurd hf h) (fun h => absurd h (by omega))⟩
          rw [show ((e + 1 : Nat) : Int) - 1 = (e : Int) by omega]
          refine k4 v h1 ?_
          rw [Int.add_assoc]
          exact hk
      · obtain ⟨f1, f2, f3, f4⟩ := sv_fA (c := (c : Int)) hF hg hge0
        have hHc : svH adj n o j e gg c = 0 := by unfold svH; rw [if_neg hf]
        rw [hHc, Int.zero_add] at hB ⊢
        obtain ⟨J2, k1, k2, k3, k4⟩ := ihq (c + 1) (by omega) _ gg x2 f1 (fun i hi _ => f2 i hi) hge hok (by rw [f4]; omega) (by omega) (by omega)
        exact ⟨J2, k1, k2, fun k hk5 => by rw [k3 k hk5, f3 k hk5], fun v h1 hk => sv_step hl0 hA hO (by omega) (by omega) hF hg hge0 hok hp (by omega) (fun _ h => absurd h hf) (fun _ h => absurd h hf) (fun _ h => absurd h hf) (fun _ _ => k4 v h1 hk) (fun h => absurd h (by omega))⟩
def svP (adj : Nat → Nat → Bool) (n : Nat) (o : Nat → Nat) (j e : Nat) (g : Nat → Int) (c : Nat) : Option (Nat → Int) := if frP adj g n (o e) (c : Int) = true then fwO adj n o j (e + 1) (up1 g (o e) (c : Int)) else none
theorem sv_fst {d : Nat} {b1 : Prop} [Decidable b1] (hb : b1) (hl0 : LyX12 S) (hA : mAd I0 n adj) (hO : svO I0 n m o) : ∀ (j e : Nat), j + 1 + e = m → ∀ (q c : Nat), q + c = 4 → ∀ (J : Nat → Nat → Int) (gg : Nat → Int), svF I0 J → (∀ i, i < n → i ≠ o e → gR J 18 i = gg i) → (∀ k, e ≤ k → k < m → gg (o k) = -1) → rOk gg n → J 181 e = (c : Int) - 1 → (∀ x, foS (svP adj n o j e gg) q c = some x → ∃ J', L_X12_solves_24 d 156 (if b1 then (1 : Int) else 0) 0 (e : Int) J S 1 (J', S) ∧ svF I0 J' ∧ ∀ i, i < n → gR J' 18 i = x i) ∧ (foS (svP adj n o j e gg) q c = none → ∃ J', svF I0 J' ∧ (∀ i, i < n → gR J' 18 i = gg i) ∧ (∀ k, k < e → J' 181 k = J 181 k) ∧ ∀ (v : Int) (h1 : PM), L_X12_solves_24 d 156 (if b1 then (1 : Int) else 0) 0 ((e : Int) - 1) J' S v h1 → L_X12_solves_24 d 156 (if b1 then (1 : Int) else 0) 0 (e : Int) J S v h1) := by
  intro j
  induction j using Nat.strongRecOn with
  | _ j ihj =>
    intro e hje q
    induction q with
    | zero =>
      intro c hq J gg hF hg hge hok hp
      obtain ⟨f1, f2, f3, f4⟩ := sv_fA (c := (c : Int)) hF hg (hge e (Nat.le_refl e) (by omega))
      exact ⟨fun x (hx : none = some x) => (by cases hx), fun _ => ⟨_, f1, f2, f3, fun v h1 hk => sv_step hl0 hA hO (by omega) (by omega) hF hg (hge e (Nat.le_refl e) (by omega)) hok hp (by omega) (fun h => absurd h (by omega)) (fun h => absurd h (by omega)) (fun h => absurd h (by omega)) (fun h => absurd h (by omega)) (fun _ => hk)⟩⟩
    | succ q ihq =>
      intro c hq J gg hF hg hge hok hp
      have hge0 := hge e (Nat.le_refl e) (by omega)
      have hfo : foS (svP adj n o j e gg) (q + 1) c = match svP adj n o j e gg c with
        | some x => some x
        | none => foS (svP adj n o j e gg) q (c + 1) := rfl
      by_cases hf : frP adj gg n (o e) (c : Int) = true
      · have hP : svP adj n o j e gg c = fwO adj n o j (e + 1) (up1 gg (o e) (c : Int)) := by unfold svP; rw [if_pos hf]
        by_cases hj0 : j = 0
        · subst hj0
          obtain ⟨f1, f2, f3, f4⟩ := sv_fL (c := (c : Int)) hF hg hge0
          have hP2 : svP adj n o 0 e gg c = some (up1 gg (o e) (c : Int)) := hP
          rw [hfo, hP2]
          refine ⟨fun x hx => ?_, fun h => by cases h⟩
          have hx : up1 gg (o e) (c : Int) = x := Option.some.inj hx
          refine ⟨_, sv_step hl0 hA hO (by omega) (by omega) hF hg hge0 hok hp (by omega) (fun _ _ h => absurd h (by omega)) (fun _ _ _ h => absurd hb h) (fun _ _ _ _ => ⟨rfl, rfl⟩) (fun _ h => absurd hf h) (fun h => absurd h (by omega)), f1, fun i hi => ?_⟩
          rw [f2 i hi, hx]
        · obtain ⟨j', rfl⟩ : ∃ j', j = j' + 1 := ⟨j - 1, by omega⟩
          obtain ⟨f1, f2, f3, f4, f5⟩ := sv_fD (c := (c : Int)) hF hg hge0
          have hP2 : svP adj n o (j' + 1) e gg c = foS (svP adj n o j' (e + 1) (up1 gg (o e) (c : Int))) 4 0 := hP
          obtain ⟨d1, d2⟩ := ihj j' (by omega) (e + 1) (by omega) 4 0 rfl (svD J e (o e) (c : Int)) (up1 gg (o e) (c : Int)) f1 (fun i hi _ => f2 i hi) (fun k hk1 hk2 => sv_up hO (by omega) hk2 (hge k (by omega) hk2)) (rOk_up hok (by omega)) (by rw [f5]; rfl)
          rw [hfo]
          cases hw : svP adj n o (j' + 1) e gg c with
          | some y =>
            refine ⟨fun x hx => ?_, fun h => by cases h⟩
            have hx : y = x := Option.some.inj hx
            obtain ⟨J', l1, l2, l3⟩ := d1 y (by rw [← hP2, hw])
            exact ⟨J', sv_step hl0 hA hO (by omega) (by omega) hF hg hge0 hok hp (by omega) (fun _ _ _ => l1) (fun _ _ h => absurd h (by omega)) (fun _ _ h => absurd h (by omega)) (fun _ h => absurd hf h) (fun h => absurd h (by omega)), l2, by rw [← hx]; exact l3⟩
          | none =>
            obtain ⟨J', g1, g2, g3, g4⟩ := d2 (by rw [← hP2, hw])
            have step : ∀ (v : Int) (h1 : PM), L_X12_solves_24 d 156 (if b1 then (1 : Int) else 0) 0 (e : Int) J' S v h1 → L_X12_solves_24 d 156 (if b1 then (1 : Int) else 0) 0 (e : Int) J S v h1 := fun v h1 hk =>
              sv_step hl0 hA hO (by omega) (by omega) hF hg hge0 hok hp (by omega) (fun _ _ _ => g4 v h1 (by
                rw [show ((e + 1 : Nat) : Int) - 1 = (e : Int) by omega]
                exact hk)) (fun _ _ h => absurd h (by omega)) (fun _ _ h => absurd h (by omega)) (fun _ h => absurd hf h) (fun h => absurd h (by omega))
            obtain ⟨i1, i2⟩ := ihq (c + 1) (by omega) J' gg g1 (fun i hi hne => by rw [g2 i hi, up1_o _ hne]) hge hok (by rw [g3 e (by omega), f4]; omega)
            refine ⟨fun x hx => ?_, fun hx => ?_⟩
            · obtain ⟨J2, l1, l2⟩ := i1 x hx
              exact ⟨J2, step _ _ l1, l2⟩
            · obtain ⟨J2, k1, k2, k3, k4⟩ := i2 hx
              exact ⟨J2, k1, k2, fun k hk5 => by rw [k3 k hk5, g3 k (by omega), f3 k hk5], fun v h1 hk => step v h1 (k4 v h1 hk)⟩
      · have hP : svP adj n o j e gg c = none := by unfold svP; rw [if_neg hf]
        obtain ⟨f1, f2, f3, f4⟩ := sv_fA (c := (c : Int)) hF hg hge0
        obtain ⟨i1, i2⟩ := ihq (c + 1) (by omega) (svA J e (o e) (c : Int)) gg f1 (fun i hi _ => f2 i hi) hge hok (by rw [f4]; omega)
        rw [hfo, hP]
        refine ⟨fun x hx => ?_, fun hx => ?_⟩
        · obtain ⟨J', l1, l2⟩ := i1 x hx
          exact ⟨J', sv_step hl0 hA hO (by omega) (by omega) hF hg hge0 hok hp (by omega) (fun _ h => absurd h hf) (fun _ h => absurd h hf) (fun _ h => absurd h hf) (fun _ _ => l1) (fun h => absurd h (by omega)), l2⟩
        · obtain ⟨J2, k1, k2, k3, k4⟩ := i2 hx
          exact ⟨J2, k1, k2, fun k hk5 => by rw [k3 k hk5, f3 k hk5], fun v h1 hk => sv_step hl0 hA hO (by omega) (by omega) hF hg hge0 hok hp (by omega) (fun _ h => absurd h hf) (fun _ h => absurd h hf) (fun _ h => absurd h hf) (fun _ _ => k4 v h1 hk) (fun h => absurd h (by omega))⟩
/-- the spots that aren't painted, laid out -/
theorem lo_facts {I : Nat → Nat → Int} (hA : mAd I n adj) (hok : rOk (gR I 0) n) : ∃ (m : Nat) (o : Nat → Nat), svO (loI I) n m o ∧ opR o m n 0 0 (gR I 0) ∧ (loI I) 156 44 = (m : Int) ∧ mAd (loI I) n adj ∧ (∀ i, i < 18 → gR (loI I) 18 i = gR I 0 i) ∧ (∀ i, i < 18 → loI I 178 i = I 178 i) ∧ (∀ a, a ≠ 178 → a ≠ 180 → a ≠ 156 → loI I a = I a) ∧ (∀ k, k ≠ 44 → loI I 156 k = I 156 k) := by
  have h15 := hA.1
  have hn := hA.2.1
  have hle := opS_le I n
  obtain ⟨q1, q2, q3, q4⟩ := opS_ok I n
  have e44 : (loI I) 156 44 = ((opS I n).1.toNat : Int) := by
    unfold loI
    rw [h15, Int.toNat_natCast, up1_o _ (by decide), up2_same]
    omega
  have e180 : (loI I) 180 = (opS I n).2 := by
    unfold loI
    rw [h15, Int.toNat_natCast, up1_same]
  have eo : ∀ a, a ≠ 178 → a ≠ 180 → a ≠ 156 → loI I a = I a := fun a h1 h2 h3 => by
    unfold loI
    rw [up1_o _ h2]
    funext k
    rw [up2_a _ h3]
    unfold trI
    rw [up1_o _ h1]
  have e156 : ∀ k, k ≠ 44 → loI I 156 k = I 156 k := fun k hk => by
    unfold loI
    rw [up1_o _ (by decide), up2_k _ hk]
    rfl
  have erow : ∀ i, loI I 178 i = trI I 178 i := fun i => by
    unfold loI
    rw [up1_o _ (by decide), up2_a _ (by decide)]
  refine ⟨(opS I n).1.toNat, fun k => ((opS I n).2 k).toNat, ⟨e44, by omega, fun k hk => ?_, fun i k hik hk => ?_⟩, ⟨by omega, fun k _ hk => ?_, fun i k hik hk => ?_, fun i _ hi hg => ?_⟩, e44, mAd_of hA (e156 15 (by decide)) (eo 161 (by decide) (by decide) (by decide)), fun i hi => ?_, fun i hi => ?_, eo, e156⟩
  · have := q2 k hk
    rw [e180]
    show (opS I n).2 k = ((((opS I n).2 k).toNat : Nat) : Int) ∧ ((opS I n).2 k).toNat < n
    exact ⟨by omega, by omega⟩
  · have h1 := q3 i k hik hk
    have h2 := q2 i (by omega)
    have h3 := q2 k hk
    show ((opS I n).2 i).toNat < ((opS I n).2 k).toNat
    omega
  · have := q2 k hk
    rw [gR_0]
    exact ⟨by omega, by show ((opS I n).2 k).toNat < n; omega, this.2.2⟩
  · have h1 := q3 i k hik hk
    have h2 := q2 i (by omega)
    have h3 := q2 k hk
    show ((opS I n).2 i).toNat < ((opS I n).2 k).toNat
    omega
  · rw [gR_0] at hg
    obtain ⟨k, w1, w2⟩ := q4 i hi hg
    exact ⟨k, by omega, w1, by show ((opS I n).2 k).toNat = i; omega⟩
  · rw [gR_18, gR_0, erow]
    unfold trI
    rw [up1_same, upTo_in (by omega), show 18 + i - 18 = i by omega]
  · rw [erow]
    unfold trI
    rw [up1_same, upTo_out (by omega)]
/-- how many ways there are to paint all, the reference's -/
theorem sv_ways {d : Nat} {I : Nat → Nat → Int} (hl0 : LyX12 S) (hA : mAd I n adj) (hok : rOk (gR I 0) n) {b1 : Prop} [Decidable b1] (hb : ¬b1) : ∃ J, Ca (d + 3) mX12_solves [vR (some (22, 0, 156)), vI (if b1 then (1 : Int) else 0)] (I, S) (.inl (some (vI (ctW adj n n 0 (gR I 0))))) (J, S) ∧ (∀ a, a ≠ 178 → a ≠ 180 → a ≠ 181 → a ≠ 156 → J a = I a) ∧ (∀ k, k ≠ 44 → J 156 k = I 156 k) ∧ ∀ i, i < 18 → J 178 i = I 178 i := by
  obtain ⟨m, o, hO, hR, h44, hA1, hg, hr, ha, h156⟩ := lo_facts hA hok
  have h15 := hA.1
  have hn := hA.2.1
  rw [ct_link (n := n) n 0 0 (gR I 0) (by omega) hR]
  rw [Nat.sub_zero]
  by_cases hm : m = 0
  · subst hm
    exact ⟨loI I, w_X12_solves_0 hl0 (fun h => absurd h44 h) (fun _ => rfl) (e1 := fun _ => rfl) (v1 := by omega), fun a h1 h2 _ h4 => ha a h1 h2 h4, h156, hr⟩
  · obtain ⟨j, rfl⟩ : ∃ j, m = j + 1 := ⟨m - 1, by omega⟩
    have hF0 : svF (loI I) (up2 (loI I) 181 0 (-1)) := svF_pick ⟨fun _ _ _ => rfl, fun _ _ => rfl⟩
    have hB : ctO adj n o (j + 1) 0 (gR I 0) ≤ 16777216 := by
      have := ct_link (adj := adj) (n := n) n 0 0 (gR I 0) (by omega) hR
      rw [Nat.sub_zero] at this
      rw [← this]
      have h1 := (ctW_in adj n n 0 (gR I 0)).2
      have h2 := pow4_le (j := n) (by omega)
      omega
    have hH : tlI (svH adj n o j 0 (gR I 0)) 4 0 = ctO adj n o (j + 1) 0 (gR I 0) := by rw [tlI_4]; rfl
    obtain ⟨J', hF, _, _, hL⟩ := sv_cnt (d := d) hb hl0 hA1 hO j 0 (by omega) 4 0 rfl (up2 (loI I) 181 0 (-1)) (gR I 0) 0 hF0 (fun i hi _ => by rw [gR_18, up2_a _ (by decide), ← gR_18 (loI I) i]; exact hg i (by omega)) (fun k _ hk => (hR.2.1 k (by omega) hk).2.2) hok (up2_same _ _ _ _) (by omega) (by rw [hH]; omega)
    rw [hH, Int.zero_add] at hL
    have hL := hL (ctO adj n o (j + 1) 0 (gR I 0)) (J', S) (w_X12_solves_24 hl0 (fun h => absurd h (by omega)) (fun h => absurd h (by omega)) (fun h => absurd h (by omega)) (fun h => absurd h (by omega)) (fun _ => rfl) (e1 := fun _ => rfl) (r2 := fun h => absurd h (by omega)) (e2 := fun h => absurd h (by omega)) (v1 := fun h => absurd h (by omega)) (v2 := fun h => absurd h (by omega)) (v3 := fun h => absurd h (by omega)) (v4 := fun h => absurd h (by omega)) (v5 := fun h => absurd h (by omega)) (v6 := fun h => absurd h (by omega)) (v7 := fun h => absurd h (by omega)) (v8 := fun h => absurd h (by omega)) (v9 := fun h => absurd h (by omega)) (v10 := fun h => absurd h (by omega)) (v11 := fun h => absurd h (by omega)))
    refine ⟨J', w_X12_solves_0 hl0 (fun _ => hL) (fun h => absurd h (by omega)) (e1 := fun h => absurd h (by omega)) (v1 := by omega), fun a h1 h2 h3 h4 => by rw [hF.1 a h1 h3, ha a h1 h2 h4], fun k hk => by rw [hF.1 156 (by decide) (by decide), h156 k hk], fun i hi => by rw [hF.2 i hi, hr i hi]⟩
/-- whether all can be painted, and the first way, the reference's -/
theorem sv_first {d : Nat} {I : Nat → Nat → Int} (hl0 : LyX12 S) (hA : mAd I n adj) (hok : rOk (gR I 0) n) {b1 : Prop} [Decidable b1] (hb : b1) : ∃ J, Ca (d + 3) mX12_solves [vR (some (22, 0, 156)), vI (if b1 then (1 : Int) else 0)] (I, S) (.inl (some (vI (if (fwS adj n n 0 (gR I 0)).isSome = true then 1 else 0)))) (J, S) ∧ (∀ x, fwS adj n n 0 (gR I 0) = some x → ∀ i, i < n → gR J 18 i = x i) ∧ (∀ a, a ≠ 178 → a ≠ 180 → a ≠ 181 → a ≠ 156 → J a = I a) ∧ (∀ k, k ≠ 44 → J 156 k = I 156 k) ∧ ∀ i, i < 18 → J 178 i = I 178 i := by
  obtain ⟨m, o, hO, hR, h44, hA1, hg, hr, ha, h156⟩ := lo_facts hA hok
  have h15 := hA.1
  have hn := hA.2.1
  rw [fw_link (n := n) n 0 0 (gR I 0) (by omega) hR]
  rw [Nat.sub_zero]
  by_cases hm : m = 0
  · subst hm
    refine ⟨loI I, w_X12_solves_0 hl0 (fun h => absurd h44 h) (fun _ => rfl) (e1 := fun _ => rfl) (v1 := by omega), fun x hx i hi => ?_, fun a h1 h2 _ h4 => ha a h1 h2 h4, h156, hr⟩
    have hx : gR I 0 = x := Option.some.inj hx
    rw [← hx]
    exact hg i (by omega)
  · obtain ⟨j, rfl⟩ : ∃ j, m = j + 1 := ⟨m - 1, by omega⟩
    have hF0 : svF (loI I) (up2 (loI I) 181 0 (-1)) := svF_pick ⟨fun _ _ _ => rfl, fun _ _ => rfl⟩
    obtain ⟨d1, d2⟩ := sv_fst (d := d) hb hl0 hA1 hO j 0 (by omega) 4 0 rfl (up2 (loI I) 181 0 (-1)) (gR I 0) hF0 (fun i hi _ => by rw [gR_18, up2_a _ (by decide), ← gR_18 (loI I) i]; exact hg i (by omega)) (fun k _ hk => (hR.2.1 k (by omega) hk).2.2) hok (up2_same _ _ _ _)
    have hP : foS (svP adj n o j 0 (gR I 0)) 4 0 = fwO adj n o (j + 1) 0 (gR I 0) := rfl
    rw [hP] at d1 d2
    cases hw : fwO adj n o (j + 1) 0 (gR I 0) with
    | some x =>
      obtain ⟨J', hL, hF, hx⟩ := d1 x hw
      refine ⟨J', w_X12_solves_0 hl0 (fun _ => hL) (fun h => absurd h (by omega)) (e1 := fun h => absurd h (by omega)) (v1 := by omega), fun y hy i hi => ?_, fun a h1 h2 h3 h4 => by rw [hF.1 a h1 h3, ha a h1 h2 h4], fun k hk => by rw [hF.1 156 (by decide) (by decide), h156 k hk], fun i hi => by rw [hF.2 i hi, hr i hi]⟩
      have hy : x = y := Option.some.inj hy
      rw [← hy]
      exact hx i hi
    | none =>
      obtain ⟨J', hF, _, _, hL⟩ := d2 hw
      have hL := hL 0 (J', S) (w_X12_solves_24 hl0 (fun h => absurd h (by omega)) (fun h => absurd h (by omega)) (fun h => absurd h (by omega)) (fun h => absurd h (by omega)) (fun _ => rfl) (e1 := fun _ => rfl) (r2 := fun h => absurd h (by omega)) (e2 := fun h => absurd h (by omega)) (v1 := fun h => absurd h (by omega)) (v2 := fun h => absurd h (by omega)) (v3 := fun h => absurd h (by omega)) (v4 := fun h => absurd h (by omega)) (v5 := fun h => absurd h (by omega)) (v6 := fun h => absurd h (by omega)) (v7 := fun h => absurd h (by omega)) (v8 := fun h => absurd h (by omega)) (v9 := fun h => absurd h (by omega)) (v10 := fun h => absurd h (by omega)) (v11 := fun h => absurd h (by omega)))
      exact ⟨J', w_X12_solves_0 hl0 (fun _ => hL) (fun h => absurd h (by omega)) (e1 := fun h => absurd h (by omega)) (v1 := by omega), fun x hx => (by cases hx), fun a h1 h2 h3 h4 => by rw [hF.1 a h1 h3, ha a h1 h2 h4], fun k hk => by rw [hF.1 156 (by decide) (by decide), h156 k hk], fun i hi => by rw [hF.2 i hi, hr i hi]⟩
end
end
