/-! ===== the reference's rows: the same colours ===== -/
noncomputable section
/-- colours as they stand in the row from b on -/
def gR (I : Nat → Nat → Int) (b : Int) : Nat → Int := fun i => I 178 (b + (i : Int)).toNat
/-- the reference's map, told plainly -/
def mAd (I : Nat → Nat → Int) (n : Nat) (adj : Nat → Nat → Bool) : Prop := (I 156 15) = (n : Int) ∧ n ≤ 12 ∧ mSp I ∧ mNb I ∧ (∀ u i, u < n → i < n → adj u i = adM I u i) ∧ ∀ u i, u < n → adj u i = true → i < n
def rOk (g : Nat → Int) (n : Nat) : Prop := ∀ i, i < n → -1 ≤ g i ∧ g i ≤ 3
section
variable {d : Nat} {I : Nat → Nat → Int} {S : PS} {n : Nat} {adj : Nat → Nat → Bool}
theorem mAd_of {J : Nat → Nat → Int} (h : mAd I n adj) (e1 : J 156 15 = I 156 15) (e2 : J 161 = I 161) : mAd J n adj := by
  obtain ⟨h1, h2, h3, h4, h5⟩ := h
  refine ⟨by rw [e1]; exact h1, h2, ?_, ?_, ?_⟩
  · unfold mSp; rw [e1, e2]; exact h3
  · unfold mNb; rw [e1, e2]; exact h4
  · have : ∀ u i, adM J u i = adM I u i := fun u i => by unfold adM; rw [e2]
    exact ⟨fun u i hu hi => by rw [this]; exact h5.1 u i hu hi, h5.2⟩
/-- the neighbours of a spot -/
theorem mAd_nb (h : mAd I n adj) {s : Nat} (hs : s < n) {k : Nat} (hk : (k : Int) < (I 161 (10 * (s : Int)).toNat)) : 0 ≤ I 161 (((10 * (s : Int)) + 1) + (k : Int)).toNat ∧ I 161 (((10 * (s : Int)) + 1) + (k : Int)).toNat < (n : Int) := by
  have := h.2.2.2.1 (s : Int) (by omega) (by rw [h.1]; omega) k hk
  rw [h.1] at this
  exact this
theorem mAd_deg (h : mAd I n adj) {s : Nat} (hs : s < n) : 1 ≤ (I 161 (10 * (s : Int)).toNat) ∧ (I 161 (10 * (s : Int)).toNat) ≤ 9 := (h.2.2.1.2 (s : Int) (by omega) (by rw [h.1]; omega)).1
theorem frF_bits (h : mAd I n adj) {s : Nat} (hs : s < n) {b : Int} (hg : rOk (gR I b) n) : ∀ k : Nat, (k : Int) ≤ (I 161 (10 * (s : Int)).toNat) → isI (frF I b (s : Int) k) ∧ ∀ i, i < 32 → bt (frF I b (s : Int) k) i = (decide (i < 4) && allB (fun j => decide (I 178 (b + (I 161 (((10 * (s : Int)) + 1) + (j : Int)).toNat)).toNat ≠ (i : Int))) k)
  | 0, _ => by
    refine ⟨show isI 15 from ⟨by decide, by decide⟩, fun i hi => ?_⟩
    have : ∀ j : Fin 32, bt 15 j.val = (decide (j.val < 4) && true) := by decide
    exact this ⟨i, hi⟩
  | k + 1, hk => by
    obtain ⟨h1, h2⟩ := frF_bits h hs hg k (by omega)
    have hn := mAd_nb h hs (k := k) (by omega)
    have hr := hg (I 161 (((10 * (s : Int)) + 1) + (k : Int)).toNat).toNat (by omega)
    unfold gR at hr
    rw [show (((I 161 (((10 * (s : Int)) + 1) + (k : Int)).toNat).toNat : Nat) : Int) = I 161 (((10 * (s : Int)) + 1) + (k : Int)).toNat by omega] at hr
    have hst : frF I b (s : Int) (k + 1) = if I 178 (b + (I 161 (((10 * (s : Int)) + 1) + (k : Int)).toNat)).toNat = (-1) then (frF I b (s : Int) k : Int) else p_and (frF I b (s : Int) k) (p_xor (p_shl 1 (I 178 (b + (I 161 (((10 * (s : Int)) + 1) + (k : Int)).toNat)).toNat)) (-1)) := rfl
    have hal : ∀ i : Nat, allB (fun j => decide (I 178 (b + (I 161 (((10 * (s : Int)) + 1) + (j : Int)).toNat)).toNat ≠ (i : Int))) (k + 1) = (allB (fun j => decide (I 178 (b + (I 161 (((10 * (s : Int)) + 1) + (j : Int)).toNat)).toNat ≠ (i : Int))) k && decide (I 178 (b + (I 161 (((10 * (s : Int)) + 1) + (k : Int)).toNat)).toNat ≠ (i : Int))) := fun _ => rfl
    rw [hst]
    obtain ⟨x, hx⟩ : ∃ x, x = I 178 (b + (I 161 (((10 * (s : Int)) + 1) + (k : Int)).toNat)).toNat := ⟨_, rfl⟩
    rw [← hx] at hr hal ⊢
    by_cases hm : x = -1
    · rw [if_pos hm]
      refine ⟨h1, fun i hi => ?_⟩
      rw [h2 i hi, hal, decide_eq_true (show x ≠ (i : Int) by omega), Bool.and_true]
    · rw [if_neg hm]
      refine ⟨isI_and _ _, fun i hi => ?_⟩
      rw [hal, bt_and, h2 i hi, bt_not hi, bt_bit (by omega), Bool.and_assoc]
      congr 2
      by_cases e : i = x.toNat
      · rw [decide_eq_true e, decide_eq_false (show ¬(x ≠ (i : Int)) by omega)]; rfl
      · rw [decide_eq_false e, decide_eq_true (show x ≠ (i : Int) by omega)]; rfl
theorem frF_eq (h : mAd I n adj) {s : Nat} (hs : s < n) {b : Int} (hg : rOk (gR I b) n) : frF I b (s : Int) (I 161 (10 * (s : Int)).toNat).toNat = btN (fun c => frP adj (gR I b) n s (c : Int)) 4 := by
  have hd := mAd_deg h hs
  obtain ⟨h1, h2⟩ := frF_bits h hs hg (I 161 (10 * (s : Int)).toNat).toNat (by omega)
  refine bt_ext h1 (btN_isI _ _) (fun i hi => ?_)
  rw [h2 i hi, btN_bt (by decide)]
  by_cases h4 : i < 4
  · rw [decide_eq_true h4, Bool.true_and, Bool.true_and]
    have : allB (fun j => decide (I 178 (b + (I 161 (((10 * (s : Int)) + 1) + (j : Int)).toNat)).toNat ≠ (i : Int))) (I 161 (10 * (s : Int)).toNat).toNat = true ↔ frP adj (gR I b) n s (i : Int) = true := by
      rw [allB_iff, frP_iff]
      constructor
      · intro q v hv ha
        rw [h.2.2.2.2.1 s v hs hv] at ha
        obtain ⟨k, hk, e⟩ := anyB_iff.mp ha
        have e : I 161 (((10 * (s : Int)) + 1) + (k : Int)).toNat = (v : Int) := of_decide_eq_true e
        have := of_decide_eq_true (q k hk)
        rw [e] at this
        exact this
      · intro q k hk
        have hn := mAd_nb h hs (k := k) (by omega)
        refine decide_eq_true ?_
        have := q (I 161 (((10 * (s : Int)) + 1) + (k : Int)).toNat).toNat (by omega) (by
          rw [h.2.2.2.2.1 s _ hs (by omega)]
          exact anyB_yes hk (decide_eq_true (by omega)))
        unfold gR at this
        rw [show (((I 161 (((10 * (s : Int)) + 1) + (k : Int)).toNat).toNat : Nat) : Int) = I 161 (((10 * (s : Int)) + 1) + (k : Int)).toNat by omega] at this
        exact this
    cases e : frP adj (gR I b) n s (i : Int) with
    | true => exact this.mpr e
    | false =>
      cases e2 : allB (fun j => decide (I 178 (b + (I 161 (((10 * (s : Int)) + 1) + (j : Int)).toNat)).toNat ≠ (i : Int))) (I 161 (10 * (s : Int)).toNat).toNat with
      | false => rfl
      | true => rw [this.mp e2] at e; cases e
  · rw [decide_eq_false h4, Bool.false_and, Bool.false_and]
theorem frF_tst (h : mAd I n adj) {s c : Nat} (hs : s < n) {b : Int} (hg : rOk (gR I b) n) (hc : c < 4) : p_and (p_shr (frF I b (s : Int) (I 161 (10 * (s : Int)).toNat).toNat) (c : Int)) 1 = 1 ↔ frP adj (gR I b) n s (c : Int) = true := by
  rw [frF_eq h hs hg, p_tst_1 (by omega), Int.toNat_natCast, btN_bt (by decide), decide_eq_true hc, Bool.true_and]
theorem frF_ne (h : mAd I n adj) {s : Nat} (hs : s < n) {b : Int} (hg : rOk (gR I b) n) : frF I b (s : Int) (I 161 (10 * (s : Int)).toNat).toNat ≠ 0 ↔ fdS adj n s 0 (gR I b) = true := by
  rw [frF_eq h hs hg]
  exact btN_ne (by decide)
theorem canS_m {b : Int} {s : Nat} {c : Int} : ((I 178 (b + (s : Int)).toNat ≠ (-1)) ∧ (((0 ≤ c) ∧ (c ≤ 3)) ∧ (I 178 (b + (s : Int)).toNat ≠ c))) ↔ canS (gR I b) s c = true := by
  rw [canS_iff]
  show _ ↔ (I 178 (b + (s : Int)).toNat ≠ -1 ∧ I 178 (b + (s : Int)).toNat ≠ c ∧ 0 ≤ c ∧ c < 4)
  constructor
  · rintro ⟨q1, q2, q3⟩; exact ⟨q1, q3, q2.1, by omega⟩
  · rintro ⟨q1, q2, q3, q4⟩; exact ⟨q1, ⟨q3, by omega⟩, q2⟩
theorem chM_eq (h : mAd I n adj) {b : Int} {s : Nat} {c : Int} (hs : s < n) : chM I b (s : Int) c = chG adj (gR I b) n s c := by
  unfold chM chG
  rw [h.1, Int.toNat_natCast, Int.toNat_natCast]
  exact chV_congr (fun u i hu hi => (h.2.2.2.2.1 u i hu hi).symm) (fun i hi => rfl)
/-- a chain is switched in the row -/
theorem swI_row (h : mAd I n adj) {b : Int} {s : Nat} {c : Int} (hs : s < n) (hb : b = 0 ∨ b = 18) (hc : canS (gR I b) s c = true) (i : Nat) (hi : i < n) : gR (swI I b (s : Int) c) b i = swG adj (gR I b) n s c i := by
  obtain ⟨q1, q2, q3, q4⟩ := canS_iff.mp hc
  unfold swI
  rw [chM_eq h hs, h.1, Int.toNat_natCast]
  show (up1 I 178 _) 178 (b + (i : Int)).toNat = _
  rw [up1_same]
  unfold swR swG xcG
  have hj : (b + (i : Int)).toNat - b.toNat = i := by omega
  have e1 : I 178 (b + (i : Int)).toNat = gR I b i := rfl
  have e2 : I 178 (b + (s : Int)).toNat = gR I b s := rfl
  rw [hj, e1, e2]
  by_cases w : bt (chG adj (gR I b) n s c) i = true
  · rw [if_pos (show (b.toNat ≤ (b + (i : Int)).toNat ∧ (b + (i : Int)).toNat < b.toNat + n) ∧ bt (chG adj (gR I b) n s c) i = true from ⟨by omega, w⟩), if_pos (show i < n ∧ bt (chG adj (gR I b) n s c) i = true from ⟨hi, w⟩)]
    rcases (chG_col h.2.1 w).2 with q | q
    · rw [if_neg (show ¬(gR I b i ≠ c) from fun k => k q), if_neg (show ¬(gR I b i = gR I b s) from fun k => q2 (k.symm.trans q)), if_pos q]
    · rw [if_pos (show gR I b i ≠ c from fun k => q2 (q.symm.trans k)), if_pos q]
  · rw [if_neg (fun k => w k.2), if_neg (fun k => w k.2)]
theorem swI_out {b s c : Int} {j : Nat} (h1 : 0 ≤ b) (hn : I 156 15 = (n : Int)) (hj : (j : Int) < b ∨ b + (n : Int) ≤ (j : Int)) : swI I b s c 178 j = I 178 j := by
  unfold swI
  rw [up1_same]
  unfold swR
  rw [if_neg (fun k => by have := k.1; omega)]
theorem swI_a {b s c : Int} {a : Nat} (h : a ≠ 178) : swI I b s c a = I a := by
  unfold swI
  rw [up1_o _ h]
theorem cntP_ct {b : Int} : ∀ n : Nat, cntP I b n = ctG (gR I b) n
  | 0 => rfl
  | k + 1 => by
    unfold cntP ctG
    rw [cntP_ct k]
    rfl
theorem swG_ok {g : Nat → Int} {s : Nat} {c : Int} (h : rOk g n) (hs : s < n) (hc : canS g s c = true) : rOk (swG adj g n s c) n := by
  obtain ⟨q1, q2, q3, q4⟩ := canS_iff.mp hc
  intro i hi
  have h1 := h i hi
  have h2 := h s hs
  unfold swG xcG
  split
  · split
    · omega
    · split <;> omega
  · exact h1
end
end
