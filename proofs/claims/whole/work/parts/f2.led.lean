/-! ===== both sides lead below alike ===== -/
noncomputable section
theorem cl_lt {r m : Nat} (hr : r = 5 ∨ r = 6 ∨ r = 7) (hm : m ∈ clN r) : m < 4 ^ r := by
  rcases hr with rfl | rfl | rfl
  · have h : (clN 5).all (fun m => Nat.blt m (4 ^ 5)) = true := by decide +kernel
    have := List.all_eq_true.mp h m hm
    exact Nat.blt_eq.mp this
  · have h : (clN 6).all (fun m => Nat.blt m (4 ^ 6)) = true := by decide +kernel
    have := List.all_eq_true.mp h m hm
    exact Nat.blt_eq.mp this
  · have h : (clN 7).all (fun m => Nat.blt m (4 ^ 7)) = true := by decide +kernel
    have := List.all_eq_true.mp h m hm
    exact Nat.blt_eq.mp this
theorem pw_le {r : Nat} (hr : r = 5 ∨ r = 6 ∨ r = 7) : (4 : Nat) ^ r ≤ 16384 := by
  rcases hr with rfl | rfl | rfl <;> decide
theorem good_in {r m : Nat} (hr : r = 5 ∨ r = 6 ∨ r = 7) (hm : m < 4 ^ r) : goodC (r : Int) (m : Int) = true ↔ m ∈ clN r := by
  have hp := pw_le hr
  have hc := chkA_all hr hm
  unfold chkA at hc
  have e : goodC (r : Int) (m : Int) = (prN r m && Nat.beq (nmN r m r).1 m) := by
    unfold goodC
    rw [pr_nat (by omega) (by omega), Int.toNat_natCast, (nm_nat (by omega) (by omega) r (Nat.le_refl r)).1]
    congr 1
    cases h : Nat.beq (nmN r m r).1 m with
    | true => rw [beq_iff.mp h]; exact decide_eq_true rfl
    | false =>
      have : (nmN r m r).1 ≠ m := fun q => by rw [beq_iff.mpr q] at h; cases h
      exact decide_eq_false (by omega)
  rw [e]
  have e2 : (prN r m && Nat.beq (nmN r m r).1 m) = (clN r).contains m := eq_of_beq hc
  rw [e2]
  exact List.contains_iff_mem
def ctL (m : Nat) : List Nat → Nat
  | [] => 0
  | a :: l => ctL m l + (if a < m then 1 else 0)
theorem ctL_succ (m : Nat) : ∀ l : List Nat, l.Nodup → ctL (m + 1) l = ctL m l + (if m ∈ l then 1 else 0)
  | [], _ => rfl
  | a :: l, h => by
    have ih := ctL_succ m l (List.nodup_cons.mp h).2
    have hn := (List.nodup_cons.mp h).1
    show ctL (m + 1) l + (if a < m + 1 then 1 else 0) = ctL m l + (if a < m then 1 else 0) + (if m ∈ a :: l then 1 else 0)
    rw [ih]
    by_cases e : m = a
    · subst e
      rw [if_neg hn, if_pos (by omega), if_neg (by omega), if_pos (List.mem_cons_self)]
    · have e2 : (m ∈ a :: l) ↔ m ∈ l := by
        rw [List.mem_cons]
        exact ⟨fun q => q.resolve_left e, Or.inr⟩
      by_cases e3 : m ∈ l
      · rw [if_pos e3, if_pos (e2.mpr e3)]
        by_cases e4 : a < m
        · rw [if_pos e4, if_pos (by omega)]
        · rw [if_neg e4, if_neg (by omega)]
      · rw [if_neg e3, if_neg (fun q => e3 (e2.mp q))]
        by_cases e4 : a < m
        · rw [if_pos e4, if_pos (by omega)]
        · rw [if_neg e4, if_neg (by omega)]
theorem cl_nodup {r : Nat} (hr : r = 5 ∨ r = 6 ∨ r = 7) : (clN r).Nodup := by
  rcases hr with rfl | rfl | rfl
  · decide +kernel
  · decide +kernel
  · decide +kernel
theorem cn_ct {r : Nat} (hr : r = 5 ∨ r = 6 ∨ r = 7) : ∀ m : Nat, m ≤ 4 ^ r → cnG (r : Int) m = (ctL m (clN r) : Int)
  | 0, _ => by
    have : ∀ l : List Nat, ctL 0 l = 0 := by
      intro l
      induction l with
      | nil => rfl
      | cons a l ih => show ctL 0 l + (if a < 0 then 1 else 0) = 0; rw [ih, if_neg (by omega)]
    rw [this]; rfl
  | m + 1, hm => by
    have ih := cn_ct hr m (by omega)
    have e : cnG (r : Int) (m + 1) = cnG (r : Int) m + (if goodC (r : Int) (m : Int) = true then 1 else 0) := rfl
    rw [e, ih, ctL_succ m _ (cl_nodup hr)]
    by_cases h : m ∈ clN r
    · rw [if_pos ((good_in hr (by omega)).mpr h), if_pos h]; rfl
    · rw [if_neg (fun q => h ((good_in hr (by omega)).mp q)), if_neg h]; rfl
def lnC (r : Nat) : Nat := (clN r).length
def cdN (r i : Nat) : Nat := (clN r).getD i 0
theorem cd_mem {r i : Nat} (hi : i < lnC r) : cdN r i ∈ clN r := by
  unfold cdN
  rw [List.getD_eq_getElem?_getD, List.getElem?_eq_getElem hi]
  exact List.getElem_mem hi
theorem mem_cd {r m : Nat} (hm : m ∈ clN r) : ∃ i, i < lnC r ∧ cdN r i = m := by
  obtain ⟨i, hi, e⟩ := List.getElem_of_mem hm
  refine ⟨i, hi, ?_⟩
  unfold cdN
  rw [List.getD_eq_getElem?_getD, List.getElem?_eq_getElem hi]
  exact e
theorem ln_le {r : Nat} (hr : r = 5 ∨ r = 6 ∨ r = 7) : 1 ≤ lnC r ∧ lnC r ≤ 91 := by
  rcases hr with rfl | rfl | rfl <;> decide
theorem cn_at {r i : Nat} (hr : r = 5 ∨ r = 6 ∨ r = 7) (hi : i < lnC r) : cnG (r : Int) (cdN r i) = (i : Int) := by
  have hl := cl_lt hr (cd_mem hi)
  rw [cn_ct hr _ (by omega)]
  have h5 : allB (fun i => Nat.beq (ctL (cdN 5 i) (clN 5)) i) 10 = true := by decide +kernel
  have h6 : allB (fun i => Nat.beq (ctL (cdN 6 i) (clN 6)) i) 31 = true := by decide +kernel
  have h7 : allB (fun i => Nat.beq (ctL (cdN 7 i) (clN 7)) i) 91 = true := by decide +kernel
  rcases hr with rfl | rfl | rfl
  · rw [beq_iff.mp (allB_iff.mp h5 i hi)]
  · rw [beq_iff.mp (allB_iff.mp h6 i hi)]
  · rw [beq_iff.mp (allB_iff.mp h7 i hi)]
theorem cn_end {r : Nat} (hr : r = 5 ∨ r = 6 ∨ r = 7) : cnG (r : Int) (4 ^ r) = (lnC r : Int) := by
  rw [cn_ct hr _ (Nat.le_refl _)]
  rcases hr with rfl | rfl | rfl
  · have h : ctL (4 ^ 5) (clN 5) = lnC 5 := by decide +kernel
    rw [h]
  · have h : ctL (4 ^ 6) (clN 6) = lnC 6 := by decide +kernel
    rw [h]
  · have h : ctL (4 ^ 7) (clN 7) = lnC 7 := by decide +kernel
    rw [h]
theorem ix_at {r i : Nat} (hr : r = 5 ∨ r = 6 ∨ r = 7) (hi : i < lnC r) : ixG (r : Int) (cdN r i) = (i : Int) := by
  unfold ixG
  rw [if_pos ((good_in hr (cl_lt hr (cd_mem hi))).mpr (cd_mem hi))]
  exact cn_at hr hi
theorem cd_inj {r i j : Nat} (hr : r = 5 ∨ r = 6 ∨ r = 7) (hi : i < lnC r) (hj : j < lnC r) (h : cdN r i = cdN r j) : i = j := by
  have h1 := cn_at hr hi
  rw [h, cn_at hr hj] at h1
  omega
theorem cd_lt {r i j : Nat} (hr : r = 5 ∨ r = 6 ∨ r = 7) (hij : i < j) (hj : j < lnC r) : cdN r i < cdN r j := by
  have h1 := cn_at hr (show i < lnC r by omega)
  have h2 := cn_at hr hj
  by_cases h : cdN r i < cdN r j
  · exact h
  · have := cnG_mono (r : Int) (show cdN r j ≤ cdN r i by omega)
    omega
/-- what a set of runs makes of a colouring is one of the list -/
theorem fz_zero {r m q : Nat} (h : dgN r m 0 = 0) : fzN r m q 0 = true := by unfold fzN; rw [h]; rfl
theorem nr_four {R s : Nat} (hR : R = 1 ∨ R = 2 ∨ R = 4 ∨ R = 6) : ∃ t, t < swM R ∧ nrN R s = 4 * t := by
  have a0 : (nrA s).testBit 0 = false := by
    unfold nrA
    cases h : s.testBit 0 with
    | false => exact h
    | true => show (s ^^^ 85).testBit 0 = false; rw [Nat.testBit_xor, h]; decide
  have b0 : (nrB s).testBit 0 = false := by
    unfold nrB
    cases h : (nrA s).testBit 1 with
    | false => exact a0
    | true => show (nrA s ^^^ 42).testBit 0 = false; rw [Nat.testBit_xor, a0]; decide
  have b1 : (nrB s).testBit 1 = false := by
    unfold nrB
    cases h : (nrA s).testBit 1 with
    | false => exact h
    | true => show (nrA s ^^^ 42).testBit 1 = false; rw [Nat.testBit_xor, h]; decide
  rw [Nat.testBit_zero] at b0
  rw [show (1 : Nat) = Nat.succ 0 from rfl, Nat.testBit_succ, Nat.testBit_zero] at b1
  have b0 := of_decide_eq_false b0
  have b1 := of_decide_eq_false b1
  have h4 : nrB s % 4 = 0 := by omega
  unfold nrN
  rcases hR with rfl | rfl | rfl | rfl
  · exact ⟨0, by decide, by show nrB s % 2 = 4 * 0; omega⟩
  · exact ⟨0, by decide, by show nrB s % 4 = 4 * 0; omega⟩
  · exact ⟨nrB s % 16 / 4, by show _ < 4; omega, by show nrB s % 16 = _; omega⟩
  · exact ⟨nrB s % 64 / 4, by show _ < 16; omega, by show nrB s % 64 = _; omega⟩
theorem rc_cases {r m q : Nat} (hr : r = 5 ∨ r = 6 ∨ r = 7) (hm : m ∈ clN r) (hq : q < 3) : rcN r m q = 1 ∨ rcN r m q = 2 ∨ rcN r m q = 4 ∨ rcN r m q = 6 := by
  have h := (chkM_all hr hm).2 q hq
  unfold chkT at h
  have h := (Bool.and_eq_true_iff.mp h).1
  rw [Bool.or_eq_true, Bool.or_eq_true, Bool.or_eq_true] at h
  rcases h with ((h | h) | h) | h
  · exact Or.inl (beq_iff.mp h)
  · exact Or.inr (Or.inl (beq_iff.mp h))
  · exact Or.inr (Or.inr (Or.inl (beq_iff.mp h)))
  · exact Or.inr (Or.inr (Or.inr (beq_iff.mp h)))
theorem tg_in {r m q : Nat} (s : Nat) (hr : r = 5 ∨ r = 6 ∨ r = 7) (hm : m ∈ clN r) (hq : q < 3) : tgN r m q s ∈ clN r := by
  obtain ⟨h0, hc⟩ := chkM_all hr hm
  rw [← tg_nr (by omega) hq (fz_zero h0)]
  obtain ⟨t, ht, e⟩ := nr_four (s := s) (rc_cases hr hm hq)
  rw [e]
  have h := hc q hq
  unfold chkT at h
  exact List.contains_iff_mem.mp (allB_iff.mp (Bool.and_eq_true_iff.mp h).2 t ht)
/-! groups of runs, fence by fence -/
theorem rnO_nat (g : Nat → Int) (x : Int) {n : Nat} (hn : n ≤ 7) : ∃ s : Nat, s < 128 ∧ rnO g x n = (s : Int) := by
  have key : ∀ k : Nat, k ≤ n → isI (rnO g x k) ∧ ∀ i, k ≤ i → i < 32 → bt (rnO g x k) i = false := by
    intro k
    induction k with
    | zero => intro _; exact ⟨⟨by show (-2147483648 : Int) ≤ 0; decide, by show (0 : Int) ≤ 2147483647; decide⟩, fun i _ _ => bt_zero i⟩
    | succ k ih =>
      intro hk
      obtain ⟨h1, h2⟩ := ih (by omega)
      refine ⟨isI_or _ _, fun i hi hi2 => ?_⟩
      show bt (p_or (rnO g x k) (if p_and (p_shr x (g k)) 1 ≠ 1 then (0 : Int) else p_shl 1 (k : Int))) i = false
      rw [bt_or, h2 i (by omega) hi2, Bool.false_or]
      split
      · exact bt_zero i
      · rw [bt_bit (by omega), Int.toNat_natCast]; exact decide_eq_false (by omega)
  obtain ⟨h1, h2⟩ := key n (Nat.le_refl n)
  have h3 := bt_small (n := 7) (by decide) h1 (fun i hi hi2 => h2 i (by omega) hi2)
  have h4 : (2 : Int) ^ 7 = 128 := by decide
  exact ⟨(rnO g x n).toNat, by omega, by omega⟩
def fsN (way R gs : Nat) : Nat := (rnO (fnG (way : Int) (R : Int)) (gs : Int) R).toNat
def fkN (way R gs : Nat) : Bool := decide (p_and (gs : Int) (p_xor (hmO (fnG (way : Int) (R : Int)) R) (-1)) = 0)
def swE (no j : Nat) : Nat := (match no with | 1 => [0] | 2 => [0, 1, 0, 2] | 3 => [0, 2, 8, 10, 0, 4, 10, 14, 0, 1, 8, 9, 0, 5, 2, 7, 0, 1, 4, 5] | _ => [] : List Nat).getD j 0
def fmB (R way k : Nat) : Bool := allB (fun gs => !fkN way R gs || anyB (fun j => Nat.beq (nrN R (fsN way R gs)) (4 * swE (lbNo (R : Int)) (k * lbPer (R : Int) + j))) (lbPer (R : Int))) 128 && allB (fun j => anyB (fun gs => fkN way R gs && Nat.beq (nrN R (fsN way R gs)) (4 * swE (lbNo (R : Int)) (k * lbPer (R : Int) + j))) 128) (lbPer (R : Int))
def fcB (R : Nat) : Bool := allB (fun way => !fnB (way : Int) (R : Int) || anyB (fmB R way) (lbRows (R : Int))) (pwI 4 (((R : Int) + 1) / 2).toNat).toNat && allB (fun k => anyB (fun way => fnB (way : Int) (R : Int) && fmB R way k) (pwI 4 (((R : Int) + 1) / 2).toNat).toNat) (lbRows (R : Int))
theorem fcB1 : fcB 1 = true := by decide +kernel
theorem fcB2 : fcB 2 = true := by decide +kernel
theorem fcB4 : fcB 4 = true := by decide +kernel
theorem fcB6 : fcB 6 = true := by decide +kernel
end
