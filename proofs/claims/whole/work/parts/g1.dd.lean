/-! ===== paint, wash or swap, if it may be: both sides ===== -/
noncomputable section
/-- a deed on a row of colours: 0 paint, 1 wash, 2 swap -/
def ddS (adj : Nat → Nat → Bool) (n : Nat) (g : Nat → Int) (how s c : Int) : Option (Nat → Int) :=
  if 0 ≤ s ∧ s < (n : Int) then
    (if how = 0 then (if g s.toNat = -1 ∧ (0 ≤ c ∧ c < 4) ∧ frP adj g n s.toNat c = true then some (up1 g s.toNat c) else none)
     else if how = 1 then (if g s.toNat ≠ -1 then some (up1 g s.toNat (-1)) else none)
     else if how = 2 then (if canS g s.toNat c = true then some (swG adj g n s.toNat c) else none) else none)
  else none
section
variable {adj : Nat → Nat → Bool} {n : Nat} {g : Nat → Int} {how s c : Int}
theorem dd_out (h : ¬(0 ≤ s ∧ s < (n : Int))) : ddS adj n g how s c = none := if_neg h
theorem dd_0 {k : Nat} (hk : k < n) : ddS adj n g 0 (k : Int) c = if g k = -1 ∧ (0 ≤ c ∧ c < 4) ∧ frP adj g n k c = true then some (up1 g k c) else none := by
  unfold ddS
  rw [if_pos (by omega), if_pos rfl, Int.toNat_natCast]
theorem dd_1 {k : Nat} (hk : k < n) : ddS adj n g 1 (k : Int) c = if g k ≠ -1 then some (up1 g k (-1)) else none := by
  unfold ddS
  rw [if_pos (by omega), if_neg (by decide), if_pos rfl, Int.toNat_natCast]
theorem dd_2 {k : Nat} (hk : k < n) : ddS adj n g 2 (k : Int) c = if canS g k c = true then some (swG adj g n k c) else none := by
  unfold ddS
  rw [if_pos (by omega), if_neg (by decide), if_neg (by decide), if_pos rfl, Int.toNat_natCast]
theorem dd_x (h0 : how ≠ 0) (h1 : how ≠ 1) (h2 : how ≠ 2) : ddS adj n g how s c = none := by
  unfold ddS
  rw [if_neg h0, if_neg h1, if_neg h2]
  split <;> rfl
theorem dd_congr {g' : Nat → Int} (e : ∀ i, i < n → g i = g' i) : (ddS adj n g how s c).isSome = (ddS adj n g' how s c).isSome ∧ ∀ i, i < n → (ddS adj n g how s c).getD g i = (ddS adj n g' how s c).getD g' i := by
  by_cases hs : 0 ≤ s ∧ s < (n : Int)
  · obtain ⟨k, rfl⟩ : ∃ k : Nat, s = (k : Int) := ⟨s.toNat, by omega⟩
    have hk : k < n := by omega
    have ek := e k hk
    by_cases h0 : how = 0
    · subst h0
      rw [dd_0 hk, dd_0 hk, ek, frP_congr e]
      by_cases q : g' k = -1 ∧ (0 ≤ c ∧ c < 4) ∧ frP adj g' n k c = true
      · rw [if_pos q, if_pos q]
        refine ⟨rfl, fun i hi => ?_⟩
        show up1 g k c i = up1 g' k c i
        by_cases w : i = k
        · rw [w, up1_same, up1_same]
        · rw [up1_o _ w, up1_o _ w]; exact e i hi
      · rw [if_neg q, if_neg q]; exact ⟨rfl, e⟩
    by_cases h1 : how = 1
    · subst h1
      rw [dd_1 hk, dd_1 hk, ek]
      by_cases q : g' k ≠ -1
      · rw [if_pos q, if_pos q]
        refine ⟨rfl, fun i hi => ?_⟩
        show up1 g k (-1) i = up1 g' k (-1) i
        by_cases w : i = k
        · rw [w, up1_same, up1_same]
        · rw [up1_o _ w, up1_o _ w]; exact e i hi
      · rw [if_neg q, if_neg q]; exact ⟨rfl, e⟩
    by_cases h2 : how = 2
    · subst h2
      have ec : canS g k c = canS g' k c := by unfold canS; rw [ek]
      rw [dd_2 hk, dd_2 hk, ec]
      by_cases q : canS g' k c = true
      · rw [if_pos q, if_pos q]
        exact ⟨rfl, fun i hi => swG_congr hk e i hi⟩
      · rw [if_neg q, if_neg q]; exact ⟨rfl, e⟩
    · rw [dd_x h0 h1 h2, dd_x h0 h1 h2]; exact ⟨rfl, e⟩
  · rw [dd_out hs, dd_out hs]; exact ⟨rfl, e⟩
theorem dd_ok (h : rOk g n) : rOk ((ddS adj n g how s c).getD g) n := by
  by_cases hs : 0 ≤ s ∧ s < (n : Int)
  · obtain ⟨k, rfl⟩ : ∃ k : Nat, s = (k : Int) := ⟨s.toNat, by omega⟩
    have hk : k < n := by omega
    by_cases h0 : how = 0
    · subst h0
      rw [dd_0 hk]
      by_cases q : g k = -1 ∧ (0 ≤ c ∧ c < 4) ∧ frP adj g n k c = true
      · rw [if_pos q]
        intro i hi
        show -1 ≤ up1 g k c i ∧ up1 g k c i ≤ 3
        by_cases w : i = k
        · rw [w, up1_same]; omega
        · rw [up1_o _ w]; exact h i hi
      · rw [if_neg q]; exact h
    by_cases h1 : how = 1
    · subst h1
      rw [dd_1 hk]
      by_cases q : g k ≠ -1
      · rw [if_pos q]
        intro i hi
        show -1 ≤ up1 g k (-1) i ∧ up1 g k (-1) i ≤ 3
        by_cases w : i = k
        · rw [w, up1_same]; omega
        · rw [up1_o _ w]; exact h i hi
      · rw [if_neg q]; exact h
    by_cases h2 : how = 2
    · subst h2
      rw [dd_2 hk]
      by_cases q : canS g k c = true
      · rw [if_pos q]; exact swG_ok h hk q
      · rw [if_neg q]; exact h
    · rw [dd_x h0 h1 h2]; exact h
  · rw [dd_out hs]; exact h
end
section
variable {d : Nat} {I : Nat → Nat → Int} {S : PS} {a0 T n : Nat} {adj : Nat → Nat → Bool} {g : Nat → Int}
theorem at_C {how s c : Int} (hl0 : LyX2 S a0) (hl1 : LyX0 S T) (hA : cAd I T n adj) (hp : pnt (I (a0 + 1)) g n) : ∃ F, Ca (d + 2) mX2_attempt [vR (some (13, 0, a0)), vR (some (11, 0, T)), vI how, vI s, vI c] (I, S) (.inl (some (vI (if (ddS adj n g how s c).isSome = true then 1 else 0)))) (up1 I (a0 + 1) F, S) ∧ pnt F ((ddS adj n g how s c).getD g) n := by
  obtain ⟨hn, hn12, hnear, hadj⟩ := hA
  have hnb : ∀ u i : Nat, (u : Int) < I T 6 → bt (I (T + 5) u) i = true → (i : Int) < I T 6 := fun u i hu hb => by
    have := hadj u i (by omega) (by rw [hnear u i (by omega)]; exact hb)
    omega
  have e0 : (I, S) = (up1 I (a0 + 1) (I (a0 + 1)), S) := by rw [up1_self]
  by_cases hs : 0 ≤ s ∧ s < (n : Int)
  · obtain ⟨k, rfl⟩ : ∃ k : Nat, s = (k : Int) := ⟨s.toNat, by omega⟩
    have hk : k < n := by omega
    have hcol := pnt_col hp hk
    have hgk := hp.1.2 k hk
    by_cases h0 : how = 0
    · subst h0
      rw [dd_0 hk]
      have hany := pnt_any0 hp hk
      have hQ : (((0 ≤ c) ∧ (c < 4)) ∧ ((p_and (p_shr (p_or (p_or (p_or (I (a0 + 1) 0) (I (a0 + 1) 1)) (I (a0 + 1) 2)) (I (a0 + 1) 3)) (k : Int)) 1 = 0) ∧ (p_and (I (a0 + 1) c.toNat) (I (T + 5) (k : Int).toNat) = 0))) ↔ (g k = -1 ∧ (0 ≤ c ∧ c < 4) ∧ frP adj g n k c = true) := by
        by_cases hc : 0 ≤ c ∧ c < 4
        · obtain ⟨cn, rfl⟩ : ∃ cn : Nat, c = (cn : Int) := ⟨c.toNat, by omega⟩
          have hf := pnt_free (m := I (T + 5) k) hp (c := cn) (s := k) (adj := adj) (by omega) (fun i _ => hnear k i hk)
          rw [Int.toNat_natCast, Int.toNat_natCast]
          exact ⟨fun q => ⟨hany.mp q.2.1, q.1, hf.mp q.2.2⟩, fun q => ⟨q.2.1, hany.mpr q.1, hf.mpr q.2.2⟩⟩
        · exact ⟨fun q => absurd q.1 hc, fun q => absurd q.2.1 hc⟩
      by_cases q : g k = -1 ∧ (0 ≤ c ∧ c < 4) ∧ frP adj g n k c = true
      · rw [if_pos q]
        have hq := hQ.mpr q
        obtain ⟨cn, rfl⟩ : ∃ cn : Nat, c = (cn : Int) := ⟨c.toNat, by omega⟩
        refine ⟨up1 (I (a0 + 1)) cn (p_or (I (a0 + 1) cn) (p_shl 1 (k : Int))), w_X2_attempt_0 hl0 hl1 (e16 := fun _ _ _ _ => by rw [up2_up1, Int.toNat_natCast]), ?_⟩
        exact pnt_put hp hk (by omega) q.1
      · rw [if_neg q]
        have hq := fun w => q (hQ.mp w)
        exact ⟨I (a0 + 1), w_X2_attempt_0 hl0 hl1 (e9 := fun _ _ _ _ _ _ => e0), hp⟩
    by_cases h1 : how = 1
    · subst h1
      rw [dd_1 hk]
      by_cases q : g k ≠ -1
      · rw [if_pos q]
        obtain ⟨cn, hcn⟩ : ∃ cn : Nat, g k = (cn : Int) := ⟨(g k).toNat, by omega⟩
        refine ⟨up1 (I (a0 + 1)) cn (p_and (I (a0 + 1) cn) (p_xor (p_shl 1 (k : Int)) (-1))), w_X2_attempt_0 hl0 hl1 (e8 := fun _ _ _ _ _ => by rw [hcol, hcn, up2_up1, Int.toNat_natCast]), ?_⟩
        exact pnt_take hp hk (by omega) hcn
      · rw [if_neg q]
        have q : g k = -1 := Decidable.not_not.mp q
        exact ⟨I (a0 + 1), w_X2_attempt_0 hl0 hl1 (e5 := fun _ _ _ _ _ _ => e0), hp⟩
    by_cases h2 : how = 2
    · subst h2
      rw [dd_2 hk]
      have hch : chC (I (a0 + 1)) (I (T + 5)) (I T 6) (k : Int) c = if canS g k c = true then chG adj g n k c else 0 := by
        rw [hn]; exact pnt_chC hp hk (fun u i hu => hnear u i hu)
      by_cases q : canS g k c = true
      · rw [if_pos q]
        rw [if_pos q] at hch
        have hne : chC (I (a0 + 1)) (I (T + 5)) (I T 6) (k : Int) c ≠ 0 := by rw [hch]; exact chG_ne hn12 hk
        have hq := canS_iff.mp q
        obtain ⟨cn, rfl⟩ : ∃ cn : Nat, c = (cn : Int) := ⟨c.toNat, by omega⟩
        obtain ⟨hd', hcn⟩ : ∃ hd' : Nat, g k = (hd' : Int) := ⟨(g k).toNat, by omega⟩
        refine ⟨xcF (I (a0 + 1)) (chG adj g n k (cn : Int)) hd' cn, w_X2_attempt_0 hl0 hl1 (e3 := fun _ _ _ _ _ _ => by rw [hch, hcol, hcn, Int.toNat_natCast, Int.toNat_natCast, xc_heap]) (v3 := fun _ _ _ _ _ => hnb), ?_⟩
        show pnt _ (xcG g n (chG adj g n k (cn : Int)) (g k) (cn : Int)) n
        rw [hcn]
        exact pnt_xc hp (by omega) (by omega) (by omega)
      · rw [if_neg q]
        rw [if_neg q] at hch
        exact ⟨I (a0 + 1), w_X2_attempt_0 hl0 hl1 (e4 := fun _ _ _ _ _ _ => e0) (v3 := fun _ _ _ _ _ => hnb), hp⟩
    · rw [dd_x h0 h1 h2]
      exact ⟨I (a0 + 1), w_X2_attempt_0 hl0 hl1 (e2 := fun _ _ _ _ _ => e0), hp⟩
  · rw [dd_out hs]
    exact ⟨I (a0 + 1), w_X2_attempt_0 hl0 hl1 (e1 := fun _ => e0) (e17 := fun _ _ => e0), hp⟩
/-- what years change in the reference -/
def yrF (I J : Nat → Nat → Int) : Prop := (∀ a, a ≠ 178 → a ≠ 156 → J a = I a) ∧ (∀ i, i < 18 → J 178 i = I 178 i) ∧ ∀ k, k ≠ 58 → J 156 k = I 156 k
theorem rw_up {I : Nat → Nat → Int} {k i : Nat} {c : Int} : gR (up2 I 178 (18 + (k : Int)).toNat c) 18 i = up1 (gR I 18) k c i := by
  rw [gR_18, show (18 + (k : Int)).toNat = 18 + k by omega]
  by_cases h : i = k
  · rw [h, up2_same, up1_same]
  · rw [up2_k _ (by omega), up1_o _ h, gR_18]
theorem cp_M (hA : mAd I n adj) (hok : rOk (gR I 18) n) {k : Nat} (hk : k < n) {c : Int} : ((I 178 (18 + (k : Int)).toNat = (-1)) ∧ (((0 ≤ c) ∧ (c ≤ 3)) ∧ (p_and (p_shr (frF I 18 (k : Int) (I 161 (10 * (k : Int)).toNat).toNat) c) 1 = 1))) ↔ (gR I 18 k = -1 ∧ (0 ≤ c ∧ c < 4) ∧ frP adj (gR I 18) n k c = true) := by
  by_cases hc : 0 ≤ c ∧ c < 4
  · obtain ⟨cn, rfl⟩ : ∃ cn : Nat, c = (cn : Int) := ⟨c.toNat, by omega⟩
    have hf := frF_tst hA hk (b := 18) hok (c := cn) (by omega)
    exact ⟨fun q => ⟨q.1, hc, hf.mp q.2.2⟩, fun q => ⟨q.1, ⟨by omega, by omega⟩, hf.mpr q.2.2⟩⟩
  · exact ⟨fun q => absurd ⟨q.2.1.1, by have := q.2.1.2; omega⟩ hc, fun q => absurd q.2.1 hc⟩
/-- a deed of the reference, by what it does to the row -/
theorem dn_M {x1 c : Int} {k : Nat} (hl0 : LyX12 S) (hA : mAd I n adj) (hok : rOk (gR I 18) n) (hx : 8 ≤ x1 ∧ x1 ≤ 10) : ∃ J, Ca (d + 4) mX12_isDone [vR (some (22, 0, 156)), vI x1, vI (k : Int), vI c] (I, S) (.inl (some (vI (if (ddS adj n (gR I 18) (x1 - 8) (k : Int) c).isSome = true then 1 else 0)))) (J, S) ∧ (∀ a, a ≠ 178 → J a = I a) ∧ (∀ i, i < 18 → J 178 i = I 178 i) ∧ (∀ i, 18 + n ≤ i → J 178 i = I 178 i) ∧ ∀ i, i < n → gR J 18 i = (ddS adj n (gR I 18) (x1 - 8) (k : Int) c).getD (gR I 18) i := by
  have hn := hA.1
  have hn12 := hA.2.1
  have hSp := hA.2.2.1
  have hNb := hA.2.2.2.1
  by_cases hs : 0 ≤ (k : Int) ∧ (k : Int) < (n : Int)
  · have hk : k < n := by omega
    have hdeg := mAd_deg hA hk
    have hnb : ∀ j : Nat, (j : Int) < I 161 (10 * (k : Int)).toNat → 0 ≤ I 161 (((10 * (k : Int)) + 1) + (j : Int)).toNat ∧ I 161 (((10 * (k : Int)) + 1) + (j : Int)).toNat < 12 := fun j hj => by have := mAd_nb hA hk hj; omega
    by_cases h0 : x1 = 8
    · subst h0
      rw [show (8 : Int) - 8 = 0 from rfl, dd_0 hk]
      by_cases q : gR I 18 k = -1 ∧ (0 ≤ c ∧ c < 4) ∧ frP adj (gR I 18) n k c = true
      · rw [if_pos q]
        have hq := (cp_M hA hok hk).mpr q
        exact ⟨up2 I 178 (18 + (k : Int)).toNat c, w_X12_isDone_0 hl0 (v6 := fun _ _ _ _ => hnb), fun a ha => funext (fun j => up2_a _ ha), fun i hi => up2_k _ (by omega), fun i hi => up2_k _ (by omega), fun i hi => rw_up⟩
      · rw [if_neg q]
        have hq := fun w => q ((cp_M hA hok hk).mp w)
        exact ⟨I, w_X12_isDone_0 hl0 (v6 := fun _ _ _ _ => hnb), fun _ _ => rfl, fun _ _ => rfl, fun _ _ => rfl, fun _ _ => rfl⟩
    by_cases h1 : x1 = 9
    · subst h1
      rw [show (9 : Int) - 8 = 1 from rfl, dd_1 hk]
      have e : gR I 18 k = I 178 (18 + (k : Int)).toNat := rfl
      by_cases q : gR I 18 k ≠ -1
      · rw [if_pos q]
        rw [e] at q
        exact ⟨up2 I 178 (18 + (k : Int)).toNat (-1), w_X12_isDone_0 hl0, fun a ha => funext (fun j => up2_a _ ha), fun i hi => up2_k _ (by omega), fun i hi => up2_k _ (by omega), fun i hi => rw_up⟩
      · rw [if_neg q]
        rw [e] at q
        exact ⟨I, w_X12_isDone_0 hl0, fun _ _ => rfl, fun _ _ => rfl, fun _ _ => rfl, fun _ _ => rfl⟩
    · have h2 : x1 = 10 := by omega
      subst h2
      rw [show (10 : Int) - 8 = 2 from rfl, dd_2 hk]
      by_cases q : canS (gR I 18) k c = true
      · rw [if_pos q]
        have hq := (canS_m (I := I) (b := 18) (s := k) (c := c)).mpr q
        exact ⟨swI I 18 (k : Int) c, w_X12_isDone_0 hl0 (v13 := fun _ _ _ => hSp) (v14 := fun _ _ _ => hNb), fun a ha => swI_a ha, fun i hi => swI_out (by decide) hn (by omega), fun i hi => swI_out (by decide) hn (by omega), fun i hi => swI_row hA hk (Or.inr rfl) q i hi⟩
      · rw [if_neg q]
        have hq := fun w => q ((canS_m (I := I) (b := 18) (s := k) (c := c)).mp w)
        exact ⟨I, w_X12_isDone_0 hl0 (v13 := fun _ _ w => absurd w hq) (v14 := fun _ _ w => absurd w hq), fun _ _ => rfl, fun _ _ => rfl, fun _ _ => rfl, fun _ _ => rfl⟩
  · rw [dd_out hs]
    by_cases h0 : x1 = 8
    · subst h0
      exact ⟨I, w_X12_isDone_0 hl0 (v6 := fun _ h => absurd h (by omega)), fun _ _ => rfl, fun _ _ => rfl, fun _ _ => rfl, fun _ _ => rfl⟩
    by_cases h1 : x1 = 9
    · subst h1
      exact ⟨I, w_X12_isDone_0 hl0, fun _ _ => rfl, fun _ _ => rfl, fun _ _ => rfl, fun _ _ => rfl⟩
    · have h2 : x1 = 10 := by omega
      subst h2
      exact ⟨I, w_X12_isDone_0 hl0 (v13 := fun _ h => absurd h (by omega)) (v14 := fun _ h => absurd h (by omega)), fun _ _ => rfl, fun _ _ => rfl, fun _ _ => rfl, fun _ _ => rfl⟩
end
end
