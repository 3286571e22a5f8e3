/-! ===== rows of a hub: how many are least ===== -/
noncomputable section
def llK (h c : Nat) : Bool := llC (rw3 c h) (h : Int)
def cL (h : Nat) : Nat → Nat
  | 0 => 0
  | c + 1 => cL h c + (if llK h c = true then 1 else 0)
/-- a row as a number of base 3 -/
def nu3 (f : Nat → Int) : Nat → Int
  | 0 => 0
  | k + 1 => 3 * nu3 f k + (f k - 5)
theorem nu3_gt {g f : Nat → Int} (hg : ∀ k, 5 ≤ g k ∧ g k ≤ 7) (hf : ∀ k, 5 ≤ f k ∧ f k ≤ 7) {m : Nat} (h : nu3 f m + 1 ≤ nu3 g m) : ∀ j : Nat, nu3 f (m + j) + 1 ≤ nu3 g (m + j)
  | 0 => h
  | j + 1 => by
    have ih := nu3_gt hg hf h j
    have h1 := hg (m + j)
    have h2 := hf (m + j)
    show 3 * nu3 f (m + j) + (f (m + j) - 5) + 1 ≤ 3 * nu3 g (m + j) + (g (m + j) - 5)
    omega
theorem less_nu {g f : Nat → Int} (hg : ∀ k, 5 ≤ g k ∧ g k ≤ 7) (hf : ∀ k, 5 ≤ f k ∧ f k ≤ 7) : ∀ (j k : Nat), nu3 f k = nu3 g k → lessR g f j k = false → nu3 f (k + j) ≤ nu3 g (k + j)
  | 0, k, e, _ => Int.le_of_eq e
  | j + 1, k, e, h => by
    have u : lessR g f (j + 1) k = if g k = f k then lessR g f j (k + 1) else decide (g k < f k) := rfl
    rw [u] at h
    have s1 : nu3 f (k + 1) = 3 * nu3 f k + (f k - 5) := rfl
    have s2 : nu3 g (k + 1) = 3 * nu3 g k + (g k - 5) := rfl
    by_cases q : g k = f k
    · rw [if_pos q] at h
      have := less_nu hg hf j (k + 1) (by rw [s1, s2, e, q]) h
      rw [show k + (j + 1) = k + 1 + j by omega]
      exact this
    · rw [if_neg q] at h
      have h := of_decide_eq_false h
      have := nu3_gt hg hf (m := k + 1) (by rw [s1, s2, e]; omega) j
      rw [show k + (j + 1) = k + 1 + j by omega]
      omega
def dgT (c i : Nat) : Nat := c / 3 ^ i % 3
theorem dg3_T : ∀ (i c : Nat), dg3 c i = dgT c i
  | 0, c => by show c % 3 = c / 3 ^ 0 % 3; rw [Nat.pow_zero, Nat.div_one]
  | i + 1, c => by
    show dg3 (c / 3) i = c / 3 ^ (i + 1) % 3
    rw [dg3_T i (c / 3)]
    unfold dgT
    rw [Nat.div_div_eq_div_mul, Nat.pow_succ, Nat.mul_comm]
theorem rw3_in (c h k : Nat) : 5 ≤ rw3 c h k ∧ rw3 c h k ≤ 7 := by
  have := dg3_lt c (h - 1 - k)
  unfold rw3
  omega
/-- figures of a row turned on, or turned back -/
def rtN (h c s : Nat) : Nat → Nat
  | 0 => 0
  | k + 1 => 3 * rtN h c s k + dgT c (h - 1 - (s + k) % h)
def rbN (h c s : Nat) : Nat → Nat
  | 0 => 0
  | k + 1 => 3 * rbN h c s k + dgT c (h - 1 - (s + h - k) % h)
def itN (h c : Nat) : Nat → Nat
  | 0 => 0
  | k + 1 => 3 * itN h c k + dgT c (h - 1 - k)
theorem it_self {h c : Nat} (hc : c < 3 ^ h) : ∀ k : Nat, k ≤ h → itN h c k = c / 3 ^ (h - k)
  | 0, _ => by show 0 = c / 3 ^ h; rw [Nat.div_eq_of_lt hc]
  | k + 1, hk => by
    have ih := it_self hc k (by omega)
    show 3 * itN h c k + c / 3 ^ (h - 1 - k) % 3 = c / 3 ^ (h - (k + 1))
    rw [ih, show h - (k + 1) = h - 1 - k by omega, show h - k = (h - 1 - k) + 1 by omega, Nat.pow_succ, ← Nat.div_div_eq_div_mul]
    omega
theorem nu_it (h c : Nat) : ∀ k : Nat, nu3 (rw3 c h) k = (itN h c k : Int)
  | 0 => rfl
  | k + 1 => by
    show 3 * nu3 (rw3 c h) k + (rw3 c h k - 5) = ((3 * itN h c k + dgT c (h - 1 - k) : Nat) : Int)
    rw [nu_it h c k]
    unfold rw3
    rw [dg3_T]
    omega
theorem nu_rt {h c s : Nat} {g : Nat → Int} : ∀ k : Nat, k ≤ h → (∀ k, k < h → g k = rw3 c h ((s + k) % h)) → nu3 g k = (rtN h c s k : Int)
  | 0, _, _ => rfl
  | k + 1, hk, hg => by
    show 3 * nu3 g k + (g k - 5) = ((3 * rtN h c s k + dgT c (h - 1 - (s + k) % h) : Nat) : Int)
    rw [nu_rt k (by omega) hg, hg k (by omega)]
    unfold rw3
    rw [dg3_T]
    omega
theorem nu_rb {h c s : Nat} {g : Nat → Int} : ∀ k : Nat, k ≤ h → (∀ k, k < h → g k = rw3 c h ((s + h - k) % h)) → nu3 g k = (rbN h c s k : Int)
  | 0, _, _ => rfl
  | k + 1, hk, hg => by
    show 3 * nu3 g k + (g k - 5) = ((3 * rbN h c s k + dgT c (h - 1 - (s + h - k) % h) : Nat) : Int)
    rw [nu_rb k (by omega) hg, hg k (by omega)]
    unfold rw3
    rw [dg3_T]
    omega
def chkL (h c : Nat) : Bool := allB (fun s => Nat.ble c (rtN h c s h) && Nat.ble c (rbN h c s h)) h
theorem ll_chk {h c : Nat} (h1 : 1 ≤ h) (hc : c < 3 ^ h) (hl : llK h c = true) : chkL h c = true := by
  refine allB_iff.mpr (fun s hs => ?_)
  unfold llK llC at hl
  rw [Int.toNat_natCast] at hl
  have hl := allB_iff.mp hl s hs
  unfold llP at hl
  rw [Bool.and_eq_true, Bool.not_eq_true', Bool.not_eq_true'] at hl
  have hs0 : 0 ≤ (s : Int) ∧ (s : Int) < (h : Int) := by omega
  have hself : nu3 (rw3 c h) h = (c : Int) := by
    rw [nu_it, it_self hc h (Nat.le_refl h), Nat.sub_self, Nat.pow_zero, Nat.div_one]
  have a1 := less_nu (g := fun k => rw3 c h (atI (s : Int) 1 (h : Int) k).toNat) (f := rw3 c h) (fun k => rw3_in _ _ _) (fun k => rw3_in _ _ _) h 0 rfl (by
    have := hl.1
    unfold lsC at this
    rw [Int.toNat_natCast] at this
    exact this)
  have a2 := less_nu (g := fun k => rw3 c h (atI (s : Int) ((h : Int) - 1) (h : Int) k).toNat) (f := rw3 c h) (fun k => rw3_in _ _ _) (fun k => rw3_in _ _ _) h 0 rfl (by
    have := hl.2
    unfold lsC at this
    rw [Int.toNat_natCast] at this
    exact this)
  rw [Nat.zero_add, hself, nu_rt (s := s) (c := c) (h := h) h (Nat.le_refl h) (fun k hk => by
    show rw3 c h (atI (s : Int) 1 (h : Int) k).toNat = _
    rw [atI_on hs0]
    have : ((s : Int) + (k : Int)) % (h : Int) = (((s + k) % h : Nat) : Int) := by rw [Int.natCast_emod]; rfl
    rw [this, Int.toNat_natCast])] at a1
  rw [Nat.zero_add, hself, nu_rb (s := s) (c := c) (h := h) h (Nat.le_refl h) (fun k hk => by
    show rw3 c h (atI (s : Int) ((h : Int) - 1) (h : Int) k).toNat = _
    rw [atI_back hs0]
    have : ((s : Int) + (h : Int) - (k : Int)) % (h : Int) = (((s + h - k) % h : Nat) : Int) := by
      rw [Int.natCast_emod, show ((s + h - k : Nat) : Int) = (s : Int) + (h : Int) - (k : Int) by omega]
    rw [this, Int.toNat_natCast])] at a2
  rw [Bool.and_eq_true]
  exact ⟨Nat.ble_eq.mpr (by omega), Nat.ble_eq.mpr (by omega)⟩
def cnW (P : Nat → Bool) (lo : Nat) : Nat → Nat
  | 0 => 0
  | m + 1 => cnW P lo m + (if P (lo + m) = true then 1 else 0)
theorem cnW_add (P : Nat → Bool) (lo a : Nat) : ∀ b : Nat, cnW P lo (a + b) = cnW P lo a + cnW P (lo + a) b
  | 0 => rfl
  | b + 1 => by
    show cnW P lo (a + b) + (if P (lo + (a + b)) = true then 1 else 0) = cnW P lo a + (cnW P (lo + a) b + (if P (lo + a + b) = true then 1 else 0))
    rw [cnW_add P lo a b, Nat.add_assoc lo a b]
    omega
theorem cnW_mono (P : Nat → Bool) (lo : Nat) {a b : Nat} (h : a ≤ b) : cnW P lo a ≤ cnW P lo b := by
  obtain ⟨c, rfl⟩ := Nat.exists_eq_add_of_le h
  rw [cnW_add]
  omega
def sR (f : Nat → Bool) : Nat → Nat → Nat
  | 0, lo => cond (f lo) 1 0
  | k + 1, lo => sR f k lo + sR f k (lo + 2 ^ k)
theorem sR_cn (f : Nat → Bool) : ∀ (k lo : Nat), sR f k lo = cnW f lo (2 ^ k)
  | 0, lo => by
    show cond (f lo) 1 0 = 0 + (if f (lo + 0) = true then 1 else 0)
    rw [Nat.add_zero]
    cases f lo <;> rfl
  | k + 1, lo => by
    show sR f k lo + sR f k (lo + 2 ^ k) = _
    rw [sR_cn f k lo, sR_cn f k (lo + 2 ^ k), show 2 ^ (k + 1) = 2 ^ k + 2 ^ k by rw [Nat.pow_succ]; omega, cnW_add]
theorem chkL5 : Nat.ble (sR (chkL 5) 8 0) 198 = true := by decide +kernel
theorem chkL6 : Nat.ble (sR (chkL 6) 10 0) 198 = true := by decide +kernel
theorem chkL7 : Nat.ble (sR (chkL 7) 12 0) 198 = true := by decide +kernel
theorem cL_cn {h : Nat} (h1 : 1 ≤ h) : ∀ m : Nat, m ≤ 3 ^ h → cL h m ≤ cnW (chkL h) 0 m
  | 0, _ => Nat.le_refl 0
  | m + 1, hm => by
    have ih := cL_cn h1 m (by omega)
    show cL h m + (if llK h m = true then 1 else 0) ≤ cnW (chkL h) 0 m + (if chkL h (0 + m) = true then 1 else 0)
    rw [Nat.zero_add]
    by_cases q : llK h m = true
    · rw [if_pos q, if_pos (ll_chk h1 (by omega) q)]; omega
    · rw [if_neg q]; omega
theorem cL_le {h : Nat} (hh : h = 5 ∨ h = 6 ∨ h = 7) : cL h (3 ^ h) ≤ 198 := by
  refine Nat.le_trans (cL_cn (by omega) (3 ^ h) (Nat.le_refl _)) ?_
  rcases hh with rfl | rfl | rfl
  · have := Nat.ble_eq.mp chkL5
    rw [sR_cn] at this
    exact Nat.le_trans (cnW_mono _ _ (by decide)) this
  · have := Nat.ble_eq.mp chkL6
    rw [sR_cn] at this
    exact Nat.le_trans (cnW_mono _ _ (by decide)) this
  · have := Nat.ble_eq.mp chkL7
    rw [sR_cn] at this
    exact Nat.le_trans (cnW_mono _ _ (by decide)) this
theorem cL_mono (h : Nat) {a b : Nat} (hab : a ≤ b) : cL h a ≤ cL h b := by
  induction hab with
  | refl => exact Nat.le_refl _
  | @step b _ ih =>
    refine Nat.le_trans ih ?_
    show cL h b ≤ cL h b + _
    omega
theorem cL_lt {h c : Nat} (hh : h = 5 ∨ h = 6 ∨ h = 7) (hc : c < 3 ^ h) (hl : llK h c = true) : cL h c < 198 := by
  have h1 := cL_le hh
  have h2 := cL_mono h (show c + 1 ≤ 3 ^ h from hc)
  have h3 : cL h (c + 1) = cL h c + (if llK h c = true then 1 else 0) := rfl
  rw [if_pos hl] at h3
  omega
end
