/-! ===== a piece told: counts of words ===== -/
noncomputable section
section
variable {d : Nat} {I J K X Y Z : Nat → Nat → Int} {S S' S1 : PS} {c T U n P R N A a2 p s r a : Nat} {dg b : Int}
theorem bcn_smI {x : Int} {f : Nat → Int} : ∀ {k : Nat}, (∀ i, i < k → f i = if bt x i = true then 1 else 0) → bcn x k = smI f k
  | 0, _ => rfl
  | k + 1, h => by
    show bcn x k + (if bt x k = true then 1 else 0) = smI f k + f k
    rw [bcn_smI (fun i hi => h i (by omega)), h k (by omega)]
theorem smI_cat (f : Nat → Int) (a : Nat) : ∀ k : Nat, smI f (a + k) = smI f a + smI (fun i => f (a + i)) k
  | 0 => (Int.add_zero _).symm
  | k + 1 => by
    show smI f (a + k) + f (a + k) = smI f a + (smI (fun i => f (a + i)) k + f (a + k))
    rw [smI_cat f a k]
    omega
theorem smI_tail {f : Nat → Int} {n : Nat} : ∀ {m : Nat}, n ≤ m → (∀ i, n ≤ i → i < m → f i = 0) → smI f m = smI f n
  | 0, h, _ => by rw [show n = 0 by omega]
  | m + 1, h, h0 => by
    by_cases e : n = m + 1
    · rw [e]
    · show smI f m + f m = smI f n
      rw [smI_tail (show n ≤ m by omega) (fun i a1 a2 => h0 i a1 (by omega)), h0 m (by omega) (by omega), Int.add_zero]
/-- words count what they hold -/
theorem bc_wd {F : Nat → Int} {Q : Nat → Bool} {n : Nat} (h : wdO F Q n) (hn : n ≤ 96) : smI (fun k => bcn (F k) 32) 3 = smI (fun i => if Q i = true then 1 else 0) n := by
  obtain ⟨g, hg⟩ : ∃ g : Nat → Int, g = fun i => if (Q i && decide (i < n)) = true then 1 else 0 := ⟨_, rfl⟩
  have e : ∀ w, w < 3 → bcn (F w) 32 = smI (fun i => g (32 * w + i)) 32 := fun w hw => bcn_smI (fun i hi => by rw [hg, (h w hw).2 i hi])
  have e1 : smI g n = smI (fun i => if Q i = true then 1 else 0) n := smI_cg (fun i hi => by rw [hg]; show (if (Q i && decide (i < n)) = true then (1 : Int) else 0) = _; rw [decide_eq_true hi, Bool.and_true])
  have e2 : smI g 96 = smI g n := smI_tail hn (fun i h1 _ => by rw [hg]; show (if (Q i && decide (i < n)) = true then (1 : Int) else 0) = 0; rw [decide_eq_false (show ¬(i < n) by omega), Bool.and_false]; rfl)
  rw [← e1, ← e2]
  show 0 + bcn (F 0) 32 + bcn (F 1) 32 + bcn (F 2) 32 = smI g (64 + 32)
  rw [e 0 (by omega), e 1 (by omega), e 2 (by omega), smI_cat g 64 32, show smI g 64 = smI g 32 + smI (fun i => g (32 + i)) 32 from smI_cat g 32 32, Int.zero_add]
  have z : (fun i => g (32 * 0 + i)) = g := by funext i; rw [Nat.mul_zero, Nat.zero_add]
  rw [z]
theorem and_0 {x y : Int} : p_and x y = 0 ↔ ∀ i, i < 32 → (bt x i && bt y i) = false := by
  constructor
  · intro h i hi
    rw [← bt_and, h, bt_zero]
  · intro h
    exact bt_ext (isI_and _ _) ⟨by decide, by decide⟩ (fun i hi => by rw [bt_and, h i hi, bt_zero])
theorem and_wd {F G : Nat → Int} {Q V : Nat → Bool} {n : Nat} (hF : wdO F Q n) (hG : wdO G V n) (hn : n ≤ 96) : allB (fun k => decide (p_and (F k) (G k) = 0)) 3 = allB (fun i => decide (¬(Q i = true ∧ V i = true))) n := by
  have : (allB (fun k => decide (p_and (F k) (G k) = 0)) 3 = true) ↔ (allB (fun i => decide (¬(Q i = true ∧ V i = true))) n = true) := by
    rw [allB_iff, allB_iff]
    constructor
    · intro h i hi
      have h1 := and_0.mp (of_decide_eq_true (h (i / 32) (by omega))) (i % 32) (by omega)
      rw [(hF _ (by omega)).2 _ (by omega), (hG _ (by omega)).2 _ (by omega), show 32 * (i / 32) + i % 32 = i by omega, decide_eq_true hi, Bool.and_true, Bool.and_true] at h1
      refine decide_eq_true (fun z => ?_)
      rw [z.1, z.2] at h1
      exact absurd h1 (by decide)
    · intro h k hk
      refine decide_eq_true (and_0.mpr (fun i hi => ?_))
      rw [(hF k hk).2 i hi, (hG k hk).2 i hi]
      by_cases z : 32 * k + i < n
      · have h1 := of_decide_eq_true (h _ z)
        rw [decide_eq_true z, Bool.and_true, Bool.and_true]
        cases a1 : Q (32 * k + i) with
        | false => rfl
        | true =>
          cases a2 : V (32 * k + i) with
          | false => rfl
          | true => exact absurd ⟨a1, a2⟩ h1
      · rw [decide_eq_false z, Bool.and_false, Bool.false_and]
  cases h1 : allB (fun k => decide (p_and (F k) (G k) = 0)) 3 with
  | true => exact (this.mp h1).symm
  | false =>
    cases h2 : allB (fun i => decide (¬(Q i = true ∧ V i = true))) n with
    | false => rfl
    | true => rw [this.mpr h2] at h1; exact absurd h1 (by decide)
/-- what the reference holds of a piece -/
theorem pM_IV (h : IV c T U n P R N I S) (hp : p < P) : ∃ r s cc : Nat, (r = 5 ∨ r = 6 ∨ r = 7) ∧ s ≤ 7 ∧ cc ≤ 4 ∧ (I (T + 7 + 9 * p) 0 = I 159 (20 * (p : Int)).toNat ∧ I (T + 7 + 9 * p) 1 = (s : Int) ∧ I (T + 7 + 9 * p) 3 = (r : Int) ∧ I (T + 7 + 9 * p) 4 = (r : Int) + 1 + (s : Int) ∧ I (T + 7 + 9 * p) 6 = (cc : Int)) ∧ (I 159 ((20 * (p : Int)) + 9).toNat = (r : Int) ∧ I 159 ((20 * (p : Int)) + 1).toNat = (s : Int) ∧ I 159 ((20 * (p : Int)) + 10).toNat = (cc : Int)) ∧ I 167 p = (lnC r : Int) ∧ (∀ k : Nat, k < lnC r → 0 ≤ I 169 ((96 * (p : Int)) + (k : Int)).toNat ∧ I 169 ((96 * (p : Int)) + (k : Int)).toNat ≤ 1) ∧ (∀ k : Nat, k < lnC r → 0 ≤ I 170 ((96 * (p : Int)) + (k : Int)).toNat ∧ I 170 ((96 * (p : Int)) + (k : Int)).toNat ≤ 1) ∧ smI (fun k => bcn (I (T + 7 + 9 * p + 2) k) 32) (r + 1 + s) = smI (edM I (p : Int)) (r + 1 + s) := by
  obtain ⟨⟨H, s', r', cc, e1, e2, e3, e4, ⟨e5, e6⟩, e7⟩, r, s, g2, g3, g4, g5⟩ := (IV_P h).2.2.2 p hp
  have er : r' = r := by omega
  have es : s' = s := by omega
  subst er es
  have n1 : (20 * (p : Int)).toNat = 20 * p := by omega
  have n2 : ((20 * (p : Int)) + 9).toNat = 20 * p + 9 := by omega
  have n3 : ((20 * (p : Int)) + 1).toNat = 20 * p + 1 := by omega
  have n4 : ((20 * (p : Int)) + 10).toNat = 20 * p + 10 := by omega
  have n5 : ∀ k : Nat, ((96 * (p : Int)) + (k : Int)).toNat = 96 * p + k := fun k => by omega
  refine ⟨r', s', cc, by omega, by omega, by omega, ⟨by rw [n1]; omega, by omega, by omega, by omega, by omega⟩, ⟨by rw [n2]; omega, by rw [n3]; omega, by rw [n4]; omega⟩, g4.1, fun k hk => ?_, fun k hk => ?_, smI_cg (fun k hk => ?_)⟩
  · rw [n5, (g4.2.2.1 k hk).1]
    split <;> omega
  · rw [n5, (g4.2.2.1 k hk).2]
    split <;> omega
  · unfold edM
    rw [show ((15 * (p : Int)) + (k : Int)).toNat = 15 * p + k by omega, e5 k (by omega)]
    exact bcn_zero (by omega) (fun i hi => e6.2.2 k i (by omega) hi)
end
end
