noncomputable section
/-! ===== all, some, the first, sums ===== -/
def allB (p : Nat → Bool) : Nat → Bool
  | 0 => true
  | n + 1 => allB p n && p n
def anyB (p : Nat → Bool) : Nat → Bool
  | 0 => false
  | n + 1 => anyB p n || p n
def fstB (p : Nat → Bool) : Nat → Int
  | 0 => -1
  | n + 1 => if fstB p n ≠ -1 then fstB p n else if p n = true then (n : Int) else -1
def smI (g : Nat → Int) : Nat → Int
  | 0 => 0
  | n + 1 => smI g n + g n
theorem allB_iff {p : Nat → Bool} {n : Nat} : allB p n = true ↔ ∀ k, k < n → p k = true := by
  induction n with
  | zero => exact ⟨fun _ k h => absurd h (by omega), fun _ => rfl⟩
  | succ n ih =>
    show (allB p n && p n) = true ↔ _
    rw [Bool.and_eq_true, ih]
    constructor
    · intro h k hk
      by_cases e : k = n
      · rw [e]; exact h.2
      · exact h.1 k (by omega)
    · intro h; exact ⟨fun k hk => h k (by omega), h n (by omega)⟩
theorem anyB_iff {p : Nat → Bool} {n : Nat} : anyB p n = true ↔ ∃ k, k < n ∧ p k = true := by
  induction n with
  | zero => exact ⟨fun h => (by cases h), fun ⟨k, h, _⟩ => absurd h (by omega)⟩
  | succ n ih =>
    show (anyB p n || p n) = true ↔ _
    rw [Bool.or_eq_true, ih]
    constructor
    · rintro (⟨k, h, q⟩ | h)
      · exact ⟨k, by omega, q⟩
      · exact ⟨n, by omega, h⟩
    · rintro ⟨k, h, q⟩
      by_cases e : k = n
      · right; rw [← e]; exact q
      · left; exact ⟨k, by omega, q⟩
theorem allB_no {p : Nat → Bool} {n k : Nat} (hk : k < n) (h : p k = false) : allB p n = false := by
  cases e : allB p n with
  | false => rfl
  | true => rw [allB_iff.mp e k hk] at h; cases h
theorem anyB_yes {p : Nat → Bool} {n k : Nat} (hk : k < n) (h : p k = true) : anyB p n = true := anyB_iff.mpr ⟨k, hk, h⟩
theorem allB_succ {p : Nat → Bool} {k : Nat} (h : allB p k = true) (hp : p k = true) : allB p (k + 1) = true := by
  show (allB p k && p k) = true
  rw [h, hp]; rfl
theorem anyB_succ {p : Nat → Bool} {k : Nat} (h : anyB p k = false) (hp : p k = false) : anyB p (k + 1) = false := by
  show (anyB p k || p k) = false
  rw [h, hp]; rfl
theorem fstB_stay {p : Nat → Bool} {k : Nat} {v : Int} (h : fstB p k = v) (hv : v ≠ -1) : ∀ n, k ≤ n → fstB p n = v := by
  intro n hn
  induction hn with
  | refl => exact h
  | step _ ih =>
    show (if _ ≠ _ then _ else _) = _
    rw [ih, if_pos hv]
theorem fstB_here {p : Nat → Bool} {k n : Nat} (h : fstB p k = -1) (hp : p k = true) (hk : k < n) : fstB p n = k := by
  refine fstB_stay (k := k + 1) ?_ (by omega) n hk
  show (if _ ≠ _ then _ else _) = _
  rw [h, if_neg (fun q => q rfl), if_pos hp]
theorem fstB_succ {p : Nat → Bool} {k : Nat} (h : fstB p k = -1) (hp : p k = false) : fstB p (k + 1) = -1 := by
  show (if _ ≠ _ then _ else _) = _
  rw [h, if_neg (fun q => q rfl), hp]
  rfl
theorem smI_le {g : Nat → Int} {m : Int} : ∀ {n : Nat}, (∀ k, k < n → 0 ≤ g k ∧ g k ≤ m) → 0 ≤ smI g n ∧ smI g n ≤ n * m
  | 0, _ => by show 0 ≤ (0 : Int) ∧ (0 : Int) ≤ (0 : Nat) * m; simp
  | n + 1, h => by
    have h1 := smI_le (n := n) (fun k hk => h k (by omega))
    have h2 := h n (by omega)
    show 0 ≤ smI g n + g n ∧ smI g n + g n ≤ ((n + 1 : Nat) : Int) * m
    have e : ((n + 1 : Nat) : Int) * m = n * m + m := by
      rw [show ((n + 1 : Nat) : Int) = (n : Int) + 1 from rfl, Int.add_mul, Int.one_mul]
    omega
theorem upTo_up1 {f g : Nat → Int} {lo k c : Nat} {v : Int} (h : lo ≤ c ∧ c < lo + k) : up1 (upTo f g lo k) c v = upTo f (up1 g c v) lo k := by
  funext j
  unfold up1 upTo
  by_cases hj : j = c
  · subst hj; rw [if_pos rfl, if_pos h]; show v = if j = j then v else g j; rw [if_pos rfl]
  · rw [if_neg hj]
    by_cases h5 : lo ≤ j ∧ j < lo + k
    · rw [if_pos h5, if_pos h5]; show g j = if j = c then v else g j; rw [if_neg hj]
    · rw [if_neg h5, if_neg h5]
def pwI (b : Int) : Nat → Int
  | 0 => 1
  | n + 1 => b * pwI b n
theorem pw4 {k : Nat} (h : k ≤ 4) : 1 ≤ pwI 4 k ∧ pwI 4 k ≤ 256 := by
  have : k = 0 ∨ k = 1 ∨ k = 2 ∨ k = 3 ∨ k = 4 := by omega
  rcases this with rfl | rfl | rfl | rfl | rfl <;> decide
theorem pw5 {k : Nat} (h : k ≤ 4) : 1 ≤ pwI 5 k ∧ pwI 5 k ≤ 625 := by
  have : k = 0 ∨ k = 1 ∨ k = 2 ∨ k = 3 ∨ k = 4 := by omega
  rcases this with rfl | rfl | rfl | rfl | rfl <;> decide
def fgI (c : Int) : Nat → Int
  | 0 => c
  | n + 1 => fgI c n / 5
theorem fgI_le {c : Int} (h : 0 ≤ c) : ∀ n : Nat, 0 ≤ fgI c n ∧ fgI c n ≤ c
  | 0 => ⟨h, Int.le_refl c⟩
  | n + 1 => by
    have := fgI_le h n
    show 0 ≤ fgI c n / 5 ∧ fgI c n / 5 ≤ c
    omega
/-- the largest, if above 0 -/
def mxI (g : Nat → Int) : Nat → Int
  | 0 => 0
  | n + 1 => if g n ≤ mxI g n then (mxI g n : Int) else g n
abbrev cAt (r code k : Int) : Int := p_and (p_shr code (2 * ((r - 1) - k))) 3
theorem p_and_3 (x : Int) : 0 ≤ p_and x 3 ∧ p_and x 3 < 4 := by
  have := bt_small (x := p_and x 3) (n := 2) (by decide) (isI_and _ _) (by
    intro i h1 h2
    rw [bt_and]
    have : bt 3 i = false := by
      have q : ∀ j : Fin 32, 2 ≤ j.val → bt 3 j.val = false := by decide
      exact q ⟨i, h2⟩ h1
    rw [this, Bool.and_false])
  exact this
/-- colours named as they come first: value, next name, names -/
def nmS (r code : Int) : Nat → Int × Int × (Nat → Int)
  | 0 => (0, 0, fun _ => -1)
  | k + 1 => if (nmS r code k).2.2 (cAt r code k).toNat ≠ -1 then (p_or (p_shl (nmS r code k).1 2) ((nmS r code k).2.2 (cAt r code k).toNat), (nmS r code k).2.1, (nmS r code k).2.2) else (p_or (p_shl (nmS r code k).1 2) (nmS r code k).2.1, (nmS r code k).2.1 + 1, up1 (nmS r code k).2.2 (cAt r code k).toNat (nmS r code k).2.1)
theorem nmS_nx (r code : Int) : ∀ n : Nat, 0 ≤ (nmS r code n).2.1 ∧ (nmS r code n).2.1 ≤ n
  | 0 => ⟨Int.le_refl 0, Int.le_refl 0⟩
  | n + 1 => by
    have := nmS_nx r code n
    show 0 ≤ (if _ ≠ _ then _ else _ : Int × Int × (Nat → Int)).2.1 ∧ (if _ ≠ _ then _ else _ : Int × Int × (Nat → Int)).2.1 ≤ _
    split
    · dsimp only; omega
    · dsimp only; omega
section
variable {d : Nat} {I : Nat → Nat → Int} {S : PS}
theorem c_X12_waysOf (hl0 : LyX12 S) (hr : 0 ≤ (I 156 37) ∧ (I 156 37) ≤ 7) : Ca (d + 1) mX12_waysOf [vR (some (22, 0, 156))] (I, S) (.inl (some (vI (pwI 4 (((I 156 37) + 1) / 2).toNat)))) (I, S) := by
  refine w_X12_waysOf_0 hl0 ?_
  refine up_loopN (P := fun k => L_X12_waysOf_4 d 156 (pwI 4 k) k I S (pwI 4 (((I 156 37) + 1) / 2).toNat) (I, S)) (n := (((I 156 37) + 1) / 2).toNat) ?_ ?_
  · exact w_X12_waysOf_4 hl0 (fun h => absurd h (by omega)) (fun _ => rfl)
  · intro k hk ih
    have := pw4 (k := k) (by omega)
    exact w_X12_waysOf_4 hl0 (fun _ => ih) (fun h => absurd h (by omega))
theorem c_X12_step5 {x1 : Int} (hl0 : LyX12 S) (hr : 0 ≤ x1 ∧ x1 ≤ 4) : Ca d mX12_step5 [vR (some (22, 0, 156)), vI x1] (I, S) (.inl (some (vI (pwI 5 x1.toNat)))) (I, S) := by
  refine w_X12_step5_0 hl0 ?_
  refine up_loopN (P := fun k => L_X12_step5_4 d 156 x1 (pwI 5 k) k I S (pwI 5 x1.toNat) (I, S)) (n := x1.toNat) ?_ ?_
  · exact w_X12_step5_4 hl0 (fun h => absurd h (by omega)) (fun _ => rfl)
  · intro k hk ih
    have := pw5 (k := k) (by omega)
    exact w_X12_step5_4 hl0 (fun _ => ih) (fun h => absurd h (by omega))
theorem c_X12_figureOf {x1 x2 : Int} (hl0 : LyX12 S) (hc : 0 ≤ x1 ∧ x1 ≤ 100000) (hd : 0 ≤ x2 ∧ x2 ≤ 100) : Ca d mX12_figureOf [vR (some (22, 0, 156)), vI x1, vI x2] (I, S) (.inl (some (vI (fgI x1 x2.toNat % 5)))) (I, S) := by
  refine w_X12_figureOf_0 hl0 ?_
  refine up_loopN (P := fun k => L_X12_figureOf_5 d 156 x1 x2 (fgI x1 k) k I S (fgI x1 x2.toNat % 5) (I, S)) (n := x2.toNat) ?_ ?_
  · have := fgI_le hc.1 x2.toNat
    exact w_X12_figureOf_5 hl0 (fun h => absurd h (by omega)) (fun _ => rfl)
  · intro k hk ih
    have := fgI_le hc.1 k
    exact w_X12_figureOf_5 hl0 (fun _ => ih) (fun h => absurd h (by omega))
theorem c_X12_find {x1 x2 : Int} (hl0 : LyX12 S) (hp : 0 ≤ x1 ∧ x1 < 4) (hm : 0 ≤ I 167 x1.toNat ∧ I 167 x1.toNat ≤ 96) : Ca d mX12_find [vR (some (22, 0, 156)), vI x1, vI x2] (I, S) (.inl (some (vI (fstB (fun k => decide (I 168 ((96 * x1) + (k : Int)).toNat = x2)) (I 167 x1.toNat).toNat)))) (I, S) := by
  refine w_X12_find_0 hl0 ?_
  refine up_loopN (P := fun k => fstB (fun k => decide (I 168 ((96 * x1) + (k : Int)).toNat = x2)) k = -1 → L_X12_find_2 d 156 x1 x2 k I S (fstB (fun k => decide (I 168 ((96 * x1) + (k : Int)).toNat = x2)) (I 167 x1.toNat).toNat) (I, S)) (n := (I 167 x1.toNat).toNat) ?_ ?_ rfl
  · intro hf
    exact w_X12_find_2 hl0 (fun h => absurd h (by omega)) (fun _ => hf.symm) (r2 := fun h => absurd h (by omega))
  · intro k hk ih hf
    exact w_X12_find_2 hl0 (fun _ c => ih (fstB_succ hf (decide_eq_false c))) (fun h => absurd h (by omega)) (r2 := fun _ c => (fstB_here hf (decide_eq_true c) hk).symm)
theorem c_X12_sumOf {n1 a1 : Nat} {x2 : Int} (hl0 : LyX12 S) (hp : 0 ≤ x2 ∧ x2 < 4) (hn : n1 = 384) (hm : 0 ≤ I 167 x2.toNat ∧ I 167 x2.toNat ≤ 96) (hg : ∀ k : Nat, (k : Int) < I 167 x2.toNat → 0 ≤ I a1 ((96 * x2) + (k : Int)).toNat ∧ I a1 ((96 * x2) + (k : Int)).toNat ≤ 1) : Ca d mX12_sumOf [vR (some (22, 0, 156)), vR (some (0, n1, a1)), vI x2] (I, S) (.inl (some (vI (smI (fun k => I a1 ((96 * x2) + (k : Int)).toNat) (I 167 x2.toNat).toNat)))) (I, S) := by
  refine w_X12_sumOf_0 hl0 ?_
  refine up_loopN (P := fun k => L_X12_sumOf_5 d 156 n1 a1 x2 (smI (fun k => I a1 ((96 * x2) + (k : Int)).toNat) k) k I S (smI (fun k => I a1 ((96 * x2) + (k : Int)).toNat) (I 167 x2.toNat).toNat) (I, S)) (n := (I 167 x2.toNat).toNat) ?_ ?_
  · exact w_X12_sumOf_5 hl0 (fun h => absurd h (by omega)) (fun _ => rfl)
  · intro k hk ih
    have h1 := smI_le (g := fun k => I a1 ((96 * x2) + (k : Int)).toNat) (m := 1) (n := k) (fun j hj => hg j (by omega))
    have h2 := hg k (by omega)
    exact w_X12_sumOf_5 hl0 (fun _ => ih) (fun h => absurd h (by omega))
theorem c_X12_badOnes {x1 : Int} (hl0 : LyX12 S) (hp : 0 ≤ x1 ∧ x1 < 4) (hm : 0 ≤ I 167 x1.toNat ∧ I 167 x1.toNat ≤ 96) : Ca d mX12_badOnes [vR (some (22, 0, 156)), vI x1] (I, S) (.inl (some (vI (smI (fun k => if I 171 ((96 * x1) + (k : Int)).toNat = (-1) then 1 else 0) (I 167 x1.toNat).toNat)))) (I, S) := by
  refine w_X12_badOnes_0 hl0 ?_
  refine up_loopN (P := fun k => L_X12_badOnes_4 d 156 x1 (smI (fun k => if I 171 ((96 * x1) + (k : Int)).toNat = (-1) then 1 else 0) k) k I S (smI (fun k => if I 171 ((96 * x1) + (k : Int)).toNat = (-1) then 1 else 0) (I 167 x1.toNat).toNat) (I, S)) (n := (I 167 x1.toNat).toNat) ?_ ?_
  · exact w_X12_badOnes_4 hl0 (fun h => absurd h (by omega)) (fun _ => rfl)
  · intro k hk ih
    have h1 := smI_le (g := fun k => if I 171 ((96 * x1) + (k : Int)).toNat = (-1) then 1 else 0) (m := 1) (n := k) (fun j hj => by split <;> omega)
    exact w_X12_badOnes_4 hl0 (fun _ => ih) (fun h => absurd h (by omega))
theorem c_X12_rounds {x1 : Int} (hl0 : LyX12 S) (hp : 0 ≤ x1 ∧ x1 < 4) (hm : 0 ≤ I 167 x1.toNat ∧ I 167 x1.toNat ≤ 96) : Ca d mX12_rounds [vR (some (22, 0, 156)), vI x1] (I, S) (.inl (some (vI (mxI (fun k => I 171 ((96 * x1) + (k : Int)).toNat) (I 167 x1.toNat).toNat)))) (I, S) := by
  refine w_X12_rounds_0 hl0 ?_
  refine up_loopN (P := fun k => L_X12_rounds_4 d 156 x1 (mxI (fun k => I 171 ((96 * x1) + (k : Int)).toNat) k) k I S (mxI (fun k => I 171 ((96 * x1) + (k : Int)).toNat) (I 167 x1.toNat).toNat) (I, S)) (n := (I 167 x1.toNat).toNat) ?_ ?_
  · exact w_X12_rounds_4 hl0 (fun h => absurd h (by omega)) (fun _ => rfl)
  · intro k hk ih
    exact w_X12_rounds_4 hl0 (fun _ => ih) (fun h => absurd h (by omega))
def isPr (r code : Int) : Bool := allB (fun k => decide (cAt r code k ≠ cAt r code (((k : Int) + 1) % r))) r.toNat
theorem c_X12_isProper {x1 x2 : Int} (hl0 : LyX12 S) (hp : 0 ≤ x1 ∧ x1 < 4) (hr : 1 ≤ I 159 ((20 * x1) + 9).toNat ∧ I 159 ((20 * x1) + 9).toNat ≤ 7) : Ca (d + 2) mX12_isProper [vR (some (22, 0, 156)), vI x1, vI x2] (I, S) (.inl (some (vI (if isPr (I 159 ((20 * x1) + 9).toNat) x2 = true then 1 else 0)))) (I, S) := by
  refine w_X12_isProper_0 hl0 ?_
  refine up_loopN (P := fun k => allB (fun k => decide (cAt (I 159 ((20 * x1) + 9).toNat) x2 k ≠ cAt (I 159 ((20 * x1) + 9).toNat) x2 (((k : Int) + 1) % (I 159 ((20 * x1) + 9).toNat)))) k = true → L_X12_isProper_2 d 156 x1 x2 k I S (if isPr (I 159 ((20 * x1) + 9).toNat) x2 = true then 1 else 0) (I, S)) (n := (I 159 ((20 * x1) + 9).toNat).toNat) ?_ ?_ rfl
  · intro hf
    exact w_X12_isProper_2 hl0 (fun h => absurd h (by omega)) (fun _ => (if_pos hf).symm) (r2 := fun h => absurd h (by omega))
  · intro k hk ih hf
    have h1 : 0 ≤ ((k : Int) + 1) % I 159 ((20 * x1) + 9).toNat := Int.emod_nonneg _ (by omega)
    have h2 : ((k : Int) + 1) % I 159 ((20 * x1) + 9).toNat < I 159 ((20 * x1) + 9).toNat := Int.emod_lt_of_pos _ (by omega)
    refine w_X12_isProper_2 hl0 (fun _ c => ih (allB_succ hf (decide_eq_true c))) (fun h => absurd h (by omega)) (r2 := fun _ c => ?_)
    have e : isPr (I 159 ((20 * x1) + 9).toNat) x2 = false := allB_no hk (decide_eq_false (fun q => q c))
    rw [e]; rfl
def nmI (I : Nat → Nat → Int) (r code : Int) : Nat → Nat → Int := up1 I 174 (upTo (I 174) (nmS r code r.toNat).2.2 0 4)
theorem c_X12_named0 {x1 x2 : Int} (hl0 : LyX12 S) (hp : 0 ≤ x1 ∧ x1 < 4) (hr : 0 ≤ I 159 ((20 * x1) + 9).toNat ∧ I 159 ((20 * x1) + 9).toNat ≤ 7) : Ca (d + 2) mX12_named0 [vR (some (22, 0, 156)), vI x1, vI x2] (I, S) (.inl (some (vI (nmS (I 159 ((20 * x1) + 9).toNat) x2 (I 159 ((20 * x1) + 9).toNat).toNat).1))) (nmI I (I 159 ((20 * x1) + 9).toNat) x2, S) := by
  obtain ⟨r, hr0⟩ : ∃ r, r = I 159 ((20 * x1) + 9).toNat := ⟨_, rfl⟩
  rw [← hr0] at hr ⊢
  refine w_X12_named0_0 hl0 ?_
  have h := up_loopN (P := fun k => L_X12_named0_8 d 156 x1 x2 0 0 k (up1 I 174 (upTo (I 174) (fun _ => -1) 0 k)) S (nmS r x2 r.toNat).1 (nmI I r x2, S)) (n := 4) ?_ ?_
  · rw [upTo_start] at h; exact h
  · refine w_X12_named0_8 hl0 (fun _ => ?_) (fun h => absurd h (by decide))
    refine up_loopN (P := fun k => ∀ J, J = up1 I 174 (upTo (I 174) (nmS r x2 k).2.2 0 4) → L_X12_named0_31 d 156 x1 x2 (nmS r x2 k).1 (nmS r x2 k).2.1 k J S (nmS r x2 r.toNat).1 (nmI I r x2, S)) (n := r.toNat) ?_ ?_ _ rfl
    · intro J hJ
      have e : J 159 ((20 * x1) + 9).toNat = r := by rw [hJ]; exact hr0.symm
      exact w_X12_named0_31 hl0 (fun h => absurd h (by omega)) (fun h => absurd h (by omega)) (fun _ => rfl) (fun _ => by rw [hJ]; rfl)
    · intro k hk ih J hJ
      have e : J 159 ((20 * x1) + 9).toNat = r := by rw [hJ]; exact hr0.symm
      have h3 := p_and_3 (p_shr x2 (2 * ((r - 1) - k)))
      have h4 := nmS_nx r x2 k
      have e2 : J 174 (p_and (p_shr x2 (2 * ((r - 1) - k))) 3).toNat = (nmS r x2 k).2.2 (cAt r x2 k).toNat := by rw [hJ, up1_same, upTo_in (by omega)]
      have hs : nmS r x2 (k + 1) = if (nmS r x2 k).2.2 (cAt r x2 k).toNat ≠ -1 then (p_or (p_shl (nmS r x2 k).1 2) ((nmS r x2 k).2.2 (cAt r x2 k).toNat), (nmS r x2 k).2.1, (nmS r x2 k).2.2) else (p_or (p_shl (nmS r x2 k).1 2) (nmS r x2 k).2.1, (nmS r x2 k).2.1 + 1, up1 (nmS r x2 k).2.2 (cAt r x2 k).toNat (nmS r x2 k).2.1) := rfl
      refine w_X12_named0_31 hl0 (fun _ c => ?_) (fun _ c => ?_) (fun h => absurd h (by omega)) (fun h => absurd h (by omega)) (v4 := fun _ => by rw [e]; exact h3)
      · rw [e, e2] at c ⊢
        rw [hs, if_pos c] at ih
        exact ih J hJ
      · rw [e, up2_same]
        rw [e, e2] at c
        rw [hs, if_neg (fun q => q c)] at ih
        refine ih _ ?_
        rw [hJ, up2_up1, up1_up1, up1_same]
        rw [upTo_up1 (show 0 ≤ (p_and (p_shr x2 (2 * ((r - 1) - k))) 3).toNat ∧ (p_and (p_shr x2 (2 * ((r - 1) - k))) 3).toNat < 0 + 4 by omega)]
  · intro k hk ih
    refine w_X12_named0_8 hl0 (fun h => absurd h (by omega)) (fun _ => ?_)
    rw [upTo_step (by omega) rfl]
    exact ih
def lnI (I : Nat → Nat → Int) (s : Int) : Nat → Nat → Int := up1 I 177 (upTo (I 177) (fun j => I 161 (10 * (I 161 (((10 * s) + 1) + (j : Int)).toNat)).toNat) 0 (I 161 (10 * s).toNat).toNat)
theorem c_X12_laysNear {x1 : Int} (hl0 : LyX12 S) (hs : 0 ≤ x1 ∧ x1 < 12) (hd : 0 ≤ I 161 (10 * x1).toNat ∧ I 161 (10 * x1).toNat ≤ 9) (hn : ∀ k : Nat, (k : Int) < I 161 (10 * x1).toNat → 0 ≤ I 161 (((10 * x1) + 1) + (k : Int)).toNat ∧ I 161 (((10 * x1) + 1) + (k : Int)).toNat < 12) : Ca (d + 1) mX12_laysNear [vR (some (22, 0, 156)), vI x1] (I, S) (.inl none) (lnI I x1, S) := by
  refine w_X12_laysNear_0 hl0 ?_
  have h := up_loopN (P := fun k => ∀ J, J = up1 I 177 (upTo (I 177) (fun j => I 161 (10 * (I 161 (((10 * x1) + 1) + (j : Int)).toNat)).toNat) 0 k) → L_X12_laysNear_2 d 156 x1 k J S (lnI I x1, S)) (n := (I 161 (10 * x1).toNat).toNat) ?_ ?_
  · exact h I (upTo_start _ _ _ _).symm
  · intro J hJ
    have e : J 161 = I 161 := by rw [hJ]; rfl
    have e1 := congrFun e (10 * x1).toNat
    exact w_X12_laysNear_2 hl0 (fun h => absurd h (by omega)) (fun _ => by rw [hJ]; rfl)
  · intro k hk ih J hJ
    have e : J 161 = I 161 := by rw [hJ]; rfl
    have hn := hn k (by omega)
    have hk2 : (k : Int) < J 161 (10 * x1).toNat := by rw [e]; omega
    rw [← e] at hd hn
    refine w_X12_laysNear_2 hl0 (fun _ => ?_) (fun h => absurd h (by omega))
    refine ih _ ?_
    rw [e, hJ, upTo_step (by omega) (by rw [Nat.zero_add])]
end
end
