/-! ===== years: both sides ===== -/
noncomputable section
/-- what is drawn of a seed -/
def drG (e n : Int) : Int := p_and (p_shr (stI e) 16) 32767 % n
theorem dr_nn (e : Int) : 0 ≤ p_and (p_shr (stI e) 16) 32767 ∧ p_and (p_shr (stI e) 16) 32767 ≤ 32767 := by
  have h := bt_small (x := p_and (p_shr (stI e) 16) 32767) (n := 15) (by decide) (isI_and _ _) (by
    intro i h1 h2
    rw [bt_and]
    have : bt 32767 i = false := by
      have q : ∀ j : Fin 32, 15 ≤ j.val → bt 32767 j.val = false := by decide
      exact q ⟨i, h2⟩ h1
    rw [this, Bool.and_false])
  have e : (2 : Int) ^ 15 = 32768 := by decide
  omega
theorem dr_in (e : Int) {n : Int} (h : 0 < n) : 0 ≤ drG e n ∧ drG e n < n := ⟨Int.emod_nonneg _ (by omega), Int.emod_lt_of_pos _ h⟩
theorem dr_rem (e : Int) {n : Int} (h : 0 < n ∧ n ≤ 2147483647) : p_rem (p_and (p_shr (stI e) 16) 32767) n = drG e n := by
  have := dr_nn e
  exact p_rem_eq ⟨by omega, by omega⟩
/-- a year: the row, the seed, how often something was done -/
def yst (adj : Nat → Nat → Bool) (n : Nat) (p : (Nat → Int) × Int × Int) : (Nat → Int) × Int × Int :=
  ((ddS adj n p.1 (drG p.2.1 3) (drG (stI p.2.1) (n : Int)) (drG (stI (stI p.2.1)) 4)).getD p.1, stI (stI (stI p.2.1)), p.2.2 + (if (ddS adj n p.1 (drG p.2.1 3) (drG (stI p.2.1) (n : Int)) (drG (stI (stI p.2.1)) 4)).isSome = true then 1 else 0))
def yrG (adj : Nat → Nat → Bool) (n : Nat) (g : Nat → Int) (seed : Int) : Nat → (Nat → Int) × Int × Int
  | 0 => (g, seed, 0)
  | k + 1 => yst adj n (yrG adj n g seed k)
section
variable {adj : Nat → Nat → Bool} {n : Nat} {g : Nat → Int} {seed : Int}
theorem yrG_ok (h : rOk g n) : ∀ k : Nat, rOk (yrG adj n g seed k).1 n
  | 0 => h
  | k + 1 => dd_ok (yrG_ok h k)
theorem yrG_in : ∀ k : Nat, 0 ≤ (yrG adj n g seed k).2.2 ∧ (yrG adj n g seed k).2.2 ≤ k
  | 0 => ⟨Int.le_refl 0, Int.le_refl 0⟩
  | k + 1 => by
    have := yrG_in k
    show 0 ≤ (yrG adj n g seed k).2.2 + (if _ then 1 else 0) ∧ (yrG adj n g seed k).2.2 + (if _ then 1 else 0) ≤ ((k + 1 : Nat) : Int)
    split <;> omega
end
section
variable {d : Nat} {I : Nat → Nat → Int} {S : PS} {T n : Nat} {adj : Nat → Nat → Bool} {g : Nat → Int}
theorem ha_K {J1 J2 K3 : Nat → Nat → Int} {how c : Int} {k : Nat} (hl0 : LyX12 S) (g1 : Ca (d + 4) mX12_draw [vR (some (22, 0, 156)), vI 3] (I, S) (.inl (some (vI how))) (J1, S)) (g2 : Ca (d + 4) mX12_draw [vR (some (22, 0, 156)), vI (J1 156 15)] (J1, S) (.inl (some (vI (k : Int)))) (J2, S)) (g3 : Ca (d + 4) mX12_draw [vR (some (22, 0, 156)), vI 4] (J2, S) (.inl (some (vI c))) (K3, S)) (a3 : ∀ a, a ≠ 156 → K3 a = I a) (f3 : ∀ k, k ≠ 58 → K3 156 k = I 156 k) (hA : mAd I n adj) (hk : k < n) (hh : 0 ≤ how ∧ how < 3) (hok : rOk (gR I 18) n) : ∃ J, Ca (d + 5) mX12_happens [vR (some (22, 0, 156))] (I, S) (.inl (some (vI (if (ddS adj n (gR I 18) how (k : Int) c).isSome = true then 1 else 0)))) (J, S) ∧ yrF I J ∧ J 156 58 = K3 156 58 ∧ ∀ i, i < n → gR J 18 i = (ddS adj n (gR I 18) how (k : Int) c).getD (gR I 18) i := by
  have hA3 : mAd K3 n adj := mAd_of hA (f3 15 (by decide)) (a3 161 (by decide))
  have hg3 : gR K3 18 = gR I 18 := by funext i; unfold gR; rw [a3 178 (by decide)]
  have hok3 : rOk (gR K3 18) n := by rw [hg3]; exact hok
  rw [← hg3]
  have hn12 := hA3.2.1
  have hdeg := mAd_deg hA3 hk
  have hSp := hA3.2.2.1
  have hNb := hA3.2.2.2.1
  have hn3 := hA3.1
  have hnb : ∀ j : Nat, (j : Int) < K3 161 (10 * (k : Int)).toNat → 0 ≤ K3 161 (((10 * (k : Int)) + 1) + (j : Int)).toNat ∧ K3 161 (((10 * (k : Int)) + 1) + (j : Int)).toNat < 12 := fun j hj => by have := mAd_nb hA3 hk hj; omega
  have yu : ∀ c : Int, yrF I (up2 K3 178 (18 + (k : Int)).toNat c) := fun c => ⟨fun a h1 h2 => by rw [show up2 K3 178 (18 + (k : Int)).toNat c a = K3 a from funext (fun j => up2_a _ h1)]; exact a3 a h2, fun i hi => by rw [up2_k _ (by omega), a3 178 (by decide)], fun k' hk' => by rw [up2_a _ (by decide)]; exact f3 k' hk'⟩
  have y0 : yrF I K3 := ⟨fun a _ h2 => a3 a h2, fun i _ => by rw [a3 178 (by decide)], f3⟩
  by_cases h0 : how = 0
  · subst h0
    rw [dd_0 hk]
    by_cases q : gR K3 18 k = -1 ∧ (0 ≤ c ∧ c < 4) ∧ frP adj (gR K3 18) n k c = true
    · rw [if_pos q]
      have hq := (cp_M hA3 hok3 hk).mpr q
      exact ⟨up2 K3 178 (18 + (k : Int)).toNat c, w_X12_happens_0 hl0 g1 g2 g3 (v18 := fun _ _ _ => hnb), yu c, up2_a _ (by decide), fun i hi => rw_up⟩
    · rw [if_neg q]
      have hq := fun w => q ((cp_M hA3 hok3 hk).mp w)
      exact ⟨K3, w_X12_happens_0 hl0 g1 g2 g3 (v18 := fun _ _ _ => hnb), y0, rfl, fun _ _ => rfl⟩
  by_cases h1 : how = 1
  · subst h1
    rw [dd_1 hk]
    have e : gR K3 18 k = K3 178 (18 + (k : Int)).toNat := rfl
    by_cases q : gR K3 18 k ≠ -1
    · rw [if_pos q]
      rw [e] at q
      exact ⟨up2 K3 178 (18 + (k : Int)).toNat (-1), w_X12_happens_0 hl0 g1 g2 g3, yu (-1), up2_a _ (by decide), fun i hi => rw_up⟩
    · rw [if_neg q]
      rw [e] at q
      exact ⟨K3, w_X12_happens_0 hl0 g1 g2 g3, y0, rfl, fun _ _ => rfl⟩
  · have h2 : how = 2 := by omega
    subst h2
    rw [dd_2 hk]
    by_cases q : canS (gR K3 18) k c = true
    · rw [if_pos q]
      have hq := (canS_m (I := K3) (b := 18) (s := k) (c := c)).mpr q
      refine ⟨swI K3 18 (k : Int) c, w_X12_happens_0 hl0 g1 g2 g3 (v3 := fun _ _ _ _ => hSp) (v4 := fun _ _ _ _ => hNb), ⟨fun a w1 w2 => by rw [swI_a w1]; exact a3 a w2, fun i hi => by rw [swI_out (by decide) hn3 (by omega), a3 178 (by decide)], fun k' hk' => by rw [swI_a (by decide)]; exact f3 k' hk'⟩, by rw [swI_a (by decide)], fun i hi => swI_row hA3 hk (Or.inr rfl) q i hi⟩
    · rw [if_neg q]
      have hq := fun w => q ((canS_m (I := K3) (b := 18) (s := k) (c := c)).mp w)
      exact ⟨K3, w_X12_happens_0 hl0 g1 g2 g3 (v3 := fun _ _ _ w => absurd w hq) (v4 := fun _ _ _ w => absurd w hq), y0, rfl, fun _ _ => rfl⟩
theorem ha_M (hl0 : LyX12 S) (hA : mAd I n adj) (hn0 : 0 < n) (hok : rOk (gR I 18) n) : ∃ J, Ca (d + 5) mX12_happens [vR (some (22, 0, 156))] (I, S) (.inl (some (vI (if (ddS adj n (gR I 18) (drG (I 156 58) 3) (drG (stI (I 156 58)) (n : Int)) (drG (stI (stI (I 156 58))) 4)).isSome = true then 1 else 0)))) (J, S) ∧ yrF I J ∧ J 156 58 = stI (stI (stI (I 156 58))) ∧ ∀ i, i < n → gR J 18 i = (ddS adj n (gR I 18) (drG (I 156 58) 3) (drG (stI (I 156 58)) (n : Int)) (drG (stI (stI (I 156 58))) 4)).getD (gR I 18) i := by
  obtain ⟨e, he⟩ : ∃ e, e = I 156 58 := ⟨_, rfl⟩
  have hn := hA.1
  have hnI : (0 : Int) < (n : Int) ∧ (n : Int) ≤ 2147483647 := by have := hA.2.1; omega
  rw [← he]
  obtain ⟨K1, hK1⟩ : ∃ K, K = up2 I 156 58 (stI e) := ⟨_, rfl⟩
  obtain ⟨K2, hK2⟩ : ∃ K, K = up2 K1 156 58 (stI (stI e)) := ⟨_, rfl⟩
  obtain ⟨K3, hK3⟩ : ∃ K, K = up2 K2 156 58 (stI (stI (stI e))) := ⟨_, rfl⟩
  have k1 : K1 156 58 = stI e := by rw [hK1, up2_same]
  have k2 : K2 156 58 = stI (stI e) := by rw [hK2, up2_same]
  have k15 : K1 156 15 = (n : Int) := by rw [hK1, up2_k _ (by decide)]; exact hn
  have g1 : Ca (d + 4) mX12_draw [vR (some (22, 0, 156)), vI 3] (I, S) (.inl (some (vI (drG e 3)))) (K1, S) := by
    have h := c_X12_draw (d := d + 4) (I := I) (S := S) (x1 := 3) hl0 (by decide)
    rw [← he, dr_rem e (by decide), ← hK1] at h
    exact h
  have g2 : Ca (d + 4) mX12_draw [vR (some (22, 0, 156)), vI (K1 156 15)] (K1, S) (.inl (some (vI (drG (stI e) (n : Int))))) (K2, S) := by
    have h := c_X12_draw (d := d + 4) (I := K1) (S := S) (x1 := (n : Int)) hl0 (Int.ne_of_gt hnI.1)
    rw [k1, dr_rem (stI e) hnI, ← hK2] at h
    rw [k15]
    exact h
  have g3 : Ca (d + 4) mX12_draw [vR (some (22, 0, 156)), vI 4] (K2, S) (.inl (some (vI (drG (stI (stI e)) 4)))) (K3, S) := by
    have h := c_X12_draw (d := d + 4) (I := K2) (S := S) (x1 := 4) hl0 (by decide)
    rw [k2, dr_rem (stI (stI e)) (by decide), ← hK3] at h
    exact h
  have a3 : ∀ a, a ≠ 156 → K3 a = I a := fun a ha => by
    rw [hK3, hK2, hK1]
    funext j
    rw [up2_a _ ha, up2_a _ ha, up2_a _ ha]
  have f3 : ∀ k, k ≠ 58 → K3 156 k = I 156 k := fun k hk => by rw [hK3, hK2, hK1, up2_k _ hk, up2_k _ hk, up2_k _ hk]
  have s3 : K3 156 58 = stI (stI (stI e)) := by rw [hK3, up2_same]
  have r1 := dr_in e (n := 3) (by decide)
  have r2 := dr_in (stI e) hnI.1
  rw [← s3]
  clear s3 hK3 hK2 hK1 k1 k2 he
  generalize drG e 3 = z1 at *
  generalize drG (stI e) (n : Int) = z2 at *
  generalize drG (stI (stI e)) 4 = z3 at *
  obtain ⟨k, rfl⟩ : ∃ k : Nat, z2 = (k : Int) := ⟨z2.toNat, (Int.toNat_of_nonneg r2.1).symm⟩
  exact ha_K hl0 g1 g2 g3 a3 f3 hA (Int.ofNat_lt.mp r2.2) r1 hok
end
end
