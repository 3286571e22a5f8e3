/-! ===== switching all runs of a pair only renames; what switching makes is of the list ===== -/
noncomputable section
def nmD (δ : Nat → Nat) : Nat → Nat × Nat × (Nat → Nat)
  | 0 => (0, 0, fun _ => 4)
  | k + 1 => if (nmD δ k).2.2 (δ k) ≠ 4 then (4 * (nmD δ k).1 + (nmD δ k).2.2 (δ k), (nmD δ k).2.1, (nmD δ k).2.2) else (4 * (nmD δ k).1 + (nmD δ k).2.1, (nmD δ k).2.1 + 1, fun c => if c = δ k then (nmD δ k).2.1 else (nmD δ k).2.2 c)
theorem nmN_D (r m : Nat) : ∀ k : Nat, nmN r m k = nmD (dgN r m) k
  | 0 => rfl
  | k + 1 => by
    unfold nmN nmD
    rw [nmN_D r m k]
theorem nmD_congr {δ δ' : Nat → Nat} : ∀ {k : Nat}, (∀ j, j < k → δ j = δ' j) → nmD δ k = nmD δ' k
  | 0, _ => rfl
  | k + 1, h => by
    unfold nmD
    rw [nmD_congr (k := k) (fun j hj => h j (by omega)), h k (by omega)]
theorem nmD_perm {δ π : Nat → Nat} (hi : ∀ a b, a < 4 → b < 4 → π a = π b → a = b) : ∀ {k : Nat}, (∀ j, j < k → δ j < 4) → (nmD (fun j => π (δ j)) k).1 = (nmD δ k).1 ∧ (nmD (fun j => π (δ j)) k).2.1 = (nmD δ k).2.1 ∧ ∀ c, c < 4 → (nmD (fun j => π (δ j)) k).2.2 (π c) = (nmD δ k).2.2 c
  | 0, _ => ⟨rfl, rfl, fun _ _ => rfl⟩
  | k + 1, h => by
    obtain ⟨h1, h2, h3⟩ := nmD_perm hi (k := k) (fun j hj => h j (by omega))
    have hd := h k (by omega)
    have e := h3 (δ k) hd
    have u1 : nmD (fun j => π (δ j)) (k + 1) = if (nmD (fun j => π (δ j)) k).2.2 (π (δ k)) ≠ 4 then (4 * (nmD (fun j => π (δ j)) k).1 + (nmD (fun j => π (δ j)) k).2.2 (π (δ k)), (nmD (fun j => π (δ j)) k).2.1, (nmD (fun j => π (δ j)) k).2.2) else (4 * (nmD (fun j => π (δ j)) k).1 + (nmD (fun j => π (δ j)) k).2.1, (nmD (fun j => π (δ j)) k).2.1 + 1, fun c => if c = π (δ k) then (nmD (fun j => π (δ j)) k).2.1 else (nmD (fun j => π (δ j)) k).2.2 c) := rfl
    have u2 : nmD δ (k + 1) = if (nmD δ k).2.2 (δ k) ≠ 4 then (4 * (nmD δ k).1 + (nmD δ k).2.2 (δ k), (nmD δ k).2.1, (nmD δ k).2.2) else (4 * (nmD δ k).1 + (nmD δ k).2.1, (nmD δ k).2.1 + 1, fun c => if c = δ k then (nmD δ k).2.1 else (nmD δ k).2.2 c) := rfl
    rw [u1, u2, e, h1, h2]
    by_cases hn : (nmD δ k).2.2 (δ k) ≠ 4
    · rw [if_pos hn, if_pos hn]
      exact ⟨rfl, rfl, h3⟩
    · rw [if_neg hn, if_neg hn]
      refine ⟨rfl, rfl, fun c hc => ?_⟩
      show (if π c = π (δ k) then (nmD δ k).2.1 else (nmD (fun j => π (δ j)) k).2.2 (π c)) = if c = δ k then (nmD δ k).2.1 else (nmD δ k).2.2 c
      by_cases hc2 : c = δ k
      · rw [if_pos hc2, if_pos (by rw [hc2])]
      · rw [if_neg hc2, if_neg (fun q => hc2 (hi c (δ k) hc hd q)), h3 c hc]
theorem swN_div {r m q s : Nat} (hq : q < 3) {k : Nat} : ∀ j : Nat, swN r m q s (k + j) / 4 ^ j = swN r m q s k
  | 0 => by rw [Nat.pow_zero, Nat.div_one]; rfl
  | j + 1 => by
    have h2 := swD_lt (r := r) (m := m) (s := s) (k := k + j) hq
    have e : swN r m q s (k + (j + 1)) = 4 * swN r m q s (k + j) + swD r m q s (k + j) := rfl
    rw [e, Nat.pow_succ', ← Nat.div_div_eq_div_mul, show (4 * swN r m q s (k + j) + swD r m q s (k + j)) / 4 = swN r m q s (k + j) by omega]
    exact swN_div hq j
theorem dg_sw {r m q s k : Nat} (hq : q < 3) (hk : k < r) : dgN r (swN r m q s r) k = swD r m q s k := by
  have h2 := swD_lt (r := r) (m := m) (s := s) (k := k) hq
  have h := swN_div (r := r) (m := m) (s := s) hq (k := k + 1) (r - 1 - k)
  rw [show k + 1 + (r - 1 - k) = r by omega] at h
  unfold dgN
  rw [h]
  show (4 * swN r m q s k + swD r m q s k) % 4 = _
  omega
theorem tg_D {r m q s : Nat} (hq : q < 3) : tgN r m q s = (nmD (swD r m q s) r).1 := by
  unfold tgN
  rw [nmN_D, nmD_congr (fun k hk => dg_sw hq hk)]
/-- runs of even numbers are those of the pair of colour 0 -/
theorem run_par {r m q : Nat} (h0 : fzN r m q 0 = true) : ∀ k : Nat, fzN r m q k = Nat.beq (rkN r m q k % 2) 0
  | 0 => by rw [h0]; rfl
  | k + 1 => by
    have ih := run_par h0 k
    have u : rkN r m q (k + 1) = cond (fzN r m q (k + 1) == fzN r m q k) (rkN r m q k) (rkN r m q k + 1) := rfl
    rw [u]
    cases e1 : fzN r m q (k + 1) <;> cases e2 : fzN r m q k <;> rw [e2] at ih
    · exact ih
    · have : rkN r m q k % 2 = 0 := beq_iff.mp ih.symm
      show false = Nat.beq ((rkN r m q k + 1) % 2) 0
      rw [show (rkN r m q k + 1) % 2 = 1 by omega]; rfl
    · have : rkN r m q k % 2 ≠ 0 := fun h => by rw [beq_iff.mpr h] at ih; cases ih
      show true = Nat.beq ((rkN r m q k + 1) % 2) 0
      rw [show (rkN r m q k + 1) % 2 = 0 by omega]; rfl
    · exact ih
theorem ra_par {r m q k : Nat} (h0 : fzN r m q 0 = true) : fzN r m q k = Nat.beq (raN r m q k % 2) 0 := by
  rw [run_par h0 k]
  unfold raN
  cases e : (rmN r m q && Nat.beq (rkN r m q k) (rkN r m q (r - 1))) with
  | false => rfl
  | true =>
    obtain ⟨e1, e2⟩ := Bool.and_eq_true_iff.mp e
    have e3 := (Bool.and_eq_true_iff.mp e1).2
    rw [run_par h0 (r - 1)] at e3
    rw [beq_iff.mp e2]
    exact e3
/-- the pair's colours change places: those of the first pair, or of the other -/
def pzE (q c : Nat) : Nat := cond (Nat.beq c 0 || Nat.beq c (q + 1)) (otN c q) c
def pzO (q c : Nat) : Nat := cond (Nat.beq c 0 || Nat.beq c (q + 1)) c (otN c q)
theorem pzE_inj {q : Nat} (hq : q < 3) (a b : Nat) (ha : a < 4) (hb : b < 4) (h : pzE q a = pzE q b) : a = b := by
  have k : ∀ q : Fin 3, ∀ a b : Fin 4, pzE q.val a.val = pzE q.val b.val → a.val = b.val := by decide
  exact k ⟨q, hq⟩ ⟨a, ha⟩ ⟨b, hb⟩ h
theorem pzO_inj {q : Nat} (hq : q < 3) (a b : Nat) (ha : a < 4) (hb : b < 4) (h : pzO q a = pzO q b) : a = b := by
  have k : ∀ q : Fin 3, ∀ a b : Fin 4, pzO q.val a.val = pzO q.val b.val → a.val = b.val := by decide
  exact k ⟨q, hq⟩ ⟨a, ha⟩ ⟨b, hb⟩ h
theorem pz_dig {q c : Nat} (hq : q < 3) (hc : c < 4) (b : Bool) : pzE q (cond b (otN c q) c) = cond (Nat.beq c 0 || Nat.beq c (q + 1)) (cond b c (otN c q)) (cond b (otN c q) c) ∧ pzO q (cond b (otN c q) c) = cond (Nat.beq c 0 || Nat.beq c (q + 1)) (cond b (otN c q) c) (cond b c (otN c q)) := by
  have k : ∀ q : Fin 3, ∀ c : Fin 4, ∀ b : Bool, pzE q.val (cond b (otN c.val q.val) c.val) = cond (Nat.beq c.val 0 || Nat.beq c.val (q.val + 1)) (cond b c.val (otN c.val q.val)) (cond b (otN c.val q.val) c.val) ∧ pzO q.val (cond b (otN c.val q.val) c.val) = cond (Nat.beq c.val 0 || Nat.beq c.val (q.val + 1)) (cond b (otN c.val q.val) c.val) (cond b c.val (otN c.val q.val)) := by decide
  exact k ⟨q, hq⟩ ⟨c, hc⟩ b
theorem mask_ev {j : Nat} (h : j < 7) : (85 : Nat).testBit j = Nat.beq (j % 2) 0 ∧ (42 : Nat).testBit j = !(Nat.beq (j % 2) 0) := by
  have k : ∀ j : Fin 7, (85 : Nat).testBit j.val = Nat.beq (j.val % 2) 0 ∧ (42 : Nat).testBit j.val = !(Nat.beq (j.val % 2) 0) := by decide
  exact k ⟨j, h⟩
theorem tg_ev {r m q s : Nat} (hr : r ≤ 7) (hq : q < 3) (h0 : fzN r m q 0 = true) : tgN r m q (s ^^^ 85) = tgN r m q s := by
  rw [tg_D hq, tg_D hq, ← (nmD_perm (δ := swD r m q s) (π := pzE q) (pzE_inj hq) (k := r) (fun j _ => swD_lt hq)).1]
  rw [nmD_congr (fun k hk => ?_)]
  have hra := raN_le r m q k
  unfold swD
  rw [(pz_dig hq (dgN_lt r m k) _).1, Nat.testBit_xor, (mask_ev (show raN r m q k < 7 by omega)).1, ← ra_par h0]
  show cond (s.testBit (raN r m q k) ^^ fzN r m q k) _ _ = cond (fzN r m q k) _ _
  cases fzN r m q k <;> cases s.testBit (raN r m q k) <;> rfl
theorem tg_od {r m q s : Nat} (hr : r ≤ 7) (hq : q < 3) (h0 : fzN r m q 0 = true) : tgN r m q (s ^^^ 42) = tgN r m q s := by
  rw [tg_D hq, tg_D hq, ← (nmD_perm (δ := swD r m q s) (π := pzO q) (pzO_inj hq) (k := r) (fun j _ => swD_lt hq)).1]
  rw [nmD_congr (fun k hk => ?_)]
  have hra := raN_le r m q k
  unfold swD
  rw [(pz_dig hq (dgN_lt r m k) _).2, Nat.testBit_xor, (mask_ev (show raN r m q k < 7 by omega)).2, ← ra_par h0]
  show cond (s.testBit (raN r m q k) ^^ !(fzN r m q k)) _ _ = cond (fzN r m q k) _ _
  cases fzN r m q k <;> cases s.testBit (raN r m q k) <;> rfl
theorem rkN_mono (r m q : Nat) {i : Nat} : ∀ {k : Nat}, i ≤ k → rkN r m q i ≤ rkN r m q k := by
  intro k h
  induction h with
  | refl => exact Nat.le_refl _
  | @step k _ ih =>
    refine Nat.le_trans ih ?_
    show rkN r m q k ≤ cond (fzN r m q (k + 1) == fzN r m q k) (rkN r m q k) (rkN r m q k + 1)
    cases (fzN r m q (k + 1) == fzN r m q k) with
    | true => exact Nat.le_refl _
    | false => exact Nat.le_succ _
theorem ra_lt {r m q k : Nat} (hk : k < r) : raN r m q k < rcN r m q := by
  have h1 := rkN_mono r m q (show k ≤ r - 1 by omega)
  unfold raN rcN
  cases e : rmN r m q with
  | false => show rkN r m q k < rkN r m q (r - 1) + 1; omega
  | true =>
    have e2 := (Bool.and_eq_true_iff.mp e).1
    have hne : rkN r m q (r - 1) ≠ 0 := fun h => by rw [beq_iff.mpr h] at e2; cases e2
    cases e3 : Nat.beq (rkN r m q k) (rkN r m q (r - 1)) with
    | true => show 0 < rkN r m q (r - 1); omega
    | false =>
      have : rkN r m q k ≠ rkN r m q (r - 1) := fun h => by rw [beq_iff.mpr h] at e3; cases e3
      show rkN r m q k < rkN r m q (r - 1)
      omega
/-- only the runs that there are matter -/
theorem tg_bits {r m q s s' : Nat} (hq : q < 3) (h : ∀ j, j < rcN r m q → s.testBit j = s'.testBit j) : tgN r m q s = tgN r m q s' := by
  rw [tg_D hq, tg_D hq, nmD_congr (fun k hk => ?_)]
  unfold swD
  rw [h _ (ra_lt hk)]
/-- runs 0 and 1 are left as they are -/
def nrA (s : Nat) : Nat := cond (s.testBit 0) (s ^^^ 85) s
def nrB (s : Nat) : Nat := cond ((nrA s).testBit 1) (nrA s ^^^ 42) (nrA s)
def nrN (R s : Nat) : Nat := nrB s % 2 ^ R
theorem tg_nr {r m q s : Nat} (hr : r ≤ 7) (hq : q < 3) (h0 : fzN r m q 0 = true) : tgN r m q (nrN (rcN r m q) s) = tgN r m q s := by
  have e1 : tgN r m q (nrN (rcN r m q) s) = tgN r m q (nrB s) := tg_bits hq (fun j hj => by
    unfold nrN
    rw [Nat.testBit_mod_two_pow, decide_eq_true hj, Bool.true_and])
  have e2 : tgN r m q (nrB s) = tgN r m q (nrA s) := by
    unfold nrB
    cases (nrA s).testBit 1 with
    | true => exact tg_od hr hq h0
    | false => rfl
  have e3 : tgN r m q (nrA s) = tgN r m q s := by
    unfold nrA
    cases s.testBit 0 with
    | true => exact tg_ev hr hq h0
    | false => rfl
  rw [e1, e2, e3]
/-- checked one by one -/
def swM (R : Nat) : Nat := cond (Nat.ble R 2) 1 (2 ^ (R - 2))
def chkT (r m q : Nat) : Bool := (Nat.beq (rcN r m q) 1 || Nat.beq (rcN r m q) 2 || Nat.beq (rcN r m q) 4 || Nat.beq (rcN r m q) 6) && allB (fun s => (clN r).contains (tgN r m q (4 * s))) (swM (rcN r m q))
def chkM (r m : Nat) : Bool := Nat.beq (dgN r m 0) 0 && (chkT r m 0 && (chkT r m 1 && chkT r m 2))
theorem chkM5 : (clN 5).all (chkM 5) = true := by decide +kernel
theorem chkM6 : (clN 6).all (chkM 6) = true := by decide +kernel
theorem chkM7 : (clN 7).all (chkM 7) = true := by decide +kernel
theorem chkM_all {r m : Nat} (hr : r = 5 ∨ r = 6 ∨ r = 7) (hm : m ∈ clN r) : dgN r m 0 = 0 ∧ ∀ q, q < 3 → chkT r m q = true := by
  have h : chkM r m = true := by
    rcases hr with rfl | rfl | rfl
    · exact List.all_eq_true.mp chkM5 m hm
    · exact List.all_eq_true.mp chkM6 m hm
    · exact List.all_eq_true.mp chkM7 m hm
  unfold chkM at h
  rw [Bool.and_eq_true, Bool.and_eq_true, Bool.and_eq_true] at h
  refine ⟨beq_iff.mp h.1, fun q hq => ?_⟩
  have : q = 0 ∨ q = 1 ∨ q = 2 := by omega
  rcases this with rfl | rfl | rfl
  · exact h.2.1
  · exact h.2.2.1
  · exact h.2.2.2
end
