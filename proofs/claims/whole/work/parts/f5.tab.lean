/-! ===== a ring's tables are filled ===== -/
noncomputable section
theorem fst_none {p : Nat → Bool} : ∀ {n : Nat}, (∀ k, k < n → p k = false) → fstB p n = -1
  | 0, _ => rfl
  | n + 1, h => fstB_succ (fst_none (fun k hk => h k (by omega))) (h n (by omega))
theorem fst_at {p : Nat → Bool} {i n : Nat} (hi : i < n) (hp : p i = true) (hno : ∀ k, k < i → p k = false) : fstB p n = (i : Int) := fstB_here (fst_none hno) hp hi
theorem fst_cd {r t n : Nat} {F : Nat → Int} (hr : r = 5 ∨ r = 6 ∨ r = 7) (hn : n = lnC r) (hF : ∀ i, i < n → F i = (cdN r i : Int)) (ht : t ∈ clN r) : fstB (fun k => decide (F k = (t : Int))) n = ixG (r : Int) t := by
  obtain ⟨i, hi, e⟩ := mem_cd ht
  rw [← e, ix_at hr hi]
  refine fst_at (by omega) (decide_eq_true (by rw [hF i (by omega)])) (fun k hk => decide_eq_false (fun q => ?_))
  rw [hF k (by omega)] at q
  have := cd_inj hr (show k < lnC r by omega) hi (by omega)
  omega
theorem shl2_nat {s : Nat} (hs : s < 268435456) : p_shl (s : Int) 2 = ((4 * s : Nat) : Int) := by
  have h := put_nat (v := s) (c := 0) hs (by decide)
  rw [show (((0 : Nat) : Int)) = 0 from rfl, p_or_0 (isI_shl _ _)] at h
  exact h
section
variable {d : Nat} {I : Nat → Nat → Int} {S : PS} {a0 r : Nat}
theorem tb_C {c q : Nat} (hl0 : LyX6 S a0) (hr : r = 5 ∨ r = 6 ∨ r = 7) (h0 : I a0 0 = (r : Int)) (h1 : I a0 1 = (lnC r : Int)) (hcd : ∀ i, i < lnC r → I (a0 + 1) i = (cdN r i : Int)) (hrc : rc S a0 = lnC r) (hc : c < lnC r) (hq : q < 3) (hb : ∀ i, I (a0 + 4) i < 91) :
    ∃ J, Ca (d + 1) mX6_tabulate [vR (some (16, 0, a0)), vI (c : Int), vI (q : Int)] (I, S) (.inl none) (J, S) ∧ (∀ a, a ≠ a0 + 2 → a ≠ a0 + 3 → a ≠ a0 + 4 → J a = I a) ∧ J (a0 + 3) = up1 (I (a0 + 3)) (3 * c + q) (rcN r (cdN r c) q : Int) ∧ (∀ s, s < swM (rcN r (cdN r c) q) → J (a0 + 4) (16 * (3 * c + q) + s) = ixG (r : Int) (tgN r (cdN r c) q (4 * s))) ∧ (∀ i, ¬(16 * (3 * c + q) ≤ i ∧ i < 16 * (3 * c + q) + 16) → J (a0 + 4) i = I (a0 + 4) i) ∧ ∀ i, J (a0 + 4) i < 91 := by
  have hp := pw_le hr
  have hm := cd_mem hc
  have hl := cl_lt hr hm
  have hln := ln_le hr
  obtain ⟨m, hm0⟩ : ∃ m, m = cdN r c := ⟨_, rfl⟩
  rw [← hm0] at hm hl ⊢
  have hR := rc_cases hr hm hq
  obtain ⟨R, hR0⟩ : ∃ R, R = rcN r m q := ⟨_, rfl⟩
  rw [← hR0] at hR ⊢
  have hcode : I (a0 + 1) ((c : Int)).toNat = (m : Int) := by rw [Int.toNat_natCast, hcd c hc, hm0]
  have hRc : rnC (r : Int) (m : Int) (q : Int) = (R : Int) := by rw [hR0]; exact rc_nat (by omega) (by omega)
  have hsm : (if (R : Int) ≤ 2 then (1 : Int) else p_shl 1 ((R : Int) - 2)) = (swM R : Int) ∧ swM R ≤ 16 ∧ 1 ≤ swM R := by
    rcases hR with h | h | h | h <;> rw [h] <;> decide
  have hat : ((c : Int) * 3) + (q : Int) = ((3 * c + q : Nat) : Int) := by omega
  have d0 : cAt (r : Int) (m : Int) 0 = 0 := by
    have h := cAt_nat (r := r) (m := m) (k := 0) (by omega) (by omega) (by omega)
    rw [(chkM_all hr hm).1] at h
    exact h
  obtain ⟨X0, hX0⟩ : ∃ X0, X0 = up2 (spI I a0 (r : Int) (m : Int) (q : Int)) (a0 + 3) (3 * c + q) (R : Int) := ⟨_, rfl⟩
  have lp : ∀ (t s : Nat) (X : Nat → Nat → Int), s + t = swM R → (∀ a, a ≠ a0 + 4 → X a = X0 a) → (∀ s', s' < s → X (a0 + 4) (16 * (3 * c + q) + s') = ixG (r : Int) (tgN r m q (4 * s'))) → (∀ i, ¬(16 * (3 * c + q) ≤ i ∧ i < 16 * (3 * c + q) + 16) → X (a0 + 4) i = I (a0 + 4) i) → (∀ i, X (a0 + 4) i < 91) →
      ∃ J, L_X6_tabulate_47 d a0 (c : Int) (q : Int) (R : Int) ((3 * c + q : Nat) : Int) (swM R : Int) (s : Int) X S (J, S) ∧ (∀ a, a ≠ a0 + 4 → J a = X0 a) ∧ (∀ s', s' < swM R → J (a0 + 4) (16 * (3 * c + q) + s') = ixG (r : Int) (tgN r m q (4 * s'))) ∧ (∀ i, ¬(16 * (3 * c + q) ≤ i ∧ i < 16 * (3 * c + q) + 16) → J (a0 + 4) i = I (a0 + 4) i) ∧ ∀ i, J (a0 + 4) i < 91 := by
    intro t
    induction t with
    | zero =>
      intro s X hs hX hd hu hb
      obtain rfl : s = swM R := by omega
      exact ⟨X, w_X6_tabulate_47 hl0 (fun h => absurd h (by omega)) (e1 := fun _ => rfl) (e2 := fun h => absurd h (by omega)) (v3 := fun h => absurd h (by omega)) (v4 := fun h => absurd h (by omega)) (v5 := fun h => absurd h (by omega)) (v6 := fun h => absurd h (by omega)) (v7 := fun h => absurd h (by omega)) (v8 := fun h => absurd h (by omega)), hX, hd, hu, hb⟩
    | succ t ih =>
      intro s X hs hX hd hu hb
      have x0 : X a0 0 = (r : Int) := by
        rw [hX a0 (by omega), hX0, up2_a _ (by omega)]
        unfold spI
        rw [up1_o _ (by omega)]; exact h0
      have x1 : X a0 1 = (lnC r : Int) := by
        rw [hX a0 (by omega), hX0, up2_a _ (by omega)]
        unfold spI
        rw [up1_o _ (by omega)]; exact h1
      have xc : X (a0 + 1) = I (a0 + 1) := by
        rw [hX (a0 + 1) (by omega), hX0]
        funext j
        rw [up2_a _ (by omega)]
        unfold spI
        rw [up1_o _ (by omega)]
      have x2 : ∀ k, k < r → X (a0 + 2) k = (raN r m q k : Int) := fun k hk => by
        rw [hX (a0 + 2) (by omega), hX0, up2_a _ (by omega)]
        unfold spI
        rw [up1_same, upTo_in (by omega)]
        exact ra_nat (by omega) (by omega) hk
      have hv : fstB (fun k => decide (X (a0 + 1) k = ((rnS (X a0 0) (tnS (X a0 0) (X (a0 + 1) ((c : Int)).toNat) (q : Int) (p_shl (s : Int) 2) (X (a0 + 2)) (X a0 0).toNat) (X a0 0).toNat).2.2.2))) (X a0 1).toNat = ixG (r : Int) (tgN r m q (4 * s)) := by
        rw [x0, x1, xc, hcode, Int.toNat_natCast, Int.toNat_natCast, shl2_nat (by omega), (rn_nm _ _ r).1, tn_sw (g' := fun k => (raN r m q k : Int)) (by omega) hl hq x2 (fun _ _ => rfl), tg_nat (by omega) (by omega) hq (fun _ _ => rfl)]
        exact fst_cd hr rfl hcd (tg_in (4 * s) hr hm hq)
      obtain ⟨i, hi, e⟩ := mem_cd (tg_in (4 * s) hr hm hq)
      have hix : ixG (r : Int) (tgN r m q (4 * s)) = (i : Int) := by rw [← e]; exact ix_at hr hi
      have hv2 : p_i2b (p_i2b (ixG (r : Int) (tgN r m q (4 * s)))) = ixG (r : Int) (tgN r m q (4 * s)) := by rw [hix]; exact i2b_small (by omega)
      have hidx : (((3 * c + q : Nat) : Int) * 16 + (s : Int)).toNat = 16 * (3 * c + q) + s := by omega
      obtain ⟨J, g1, g2⟩ := ih (s + 1) (up2 X (a0 + 4) (16 * (3 * c + q) + s) (ixG (r : Int) (tgN r m q (4 * s)))) (by omega) (fun a ha => by funext j; rw [up2_a _ ha, hX a ha]) (fun s' hs' => by
        by_cases e : s' = s
        · rw [e, up2_same]
        · rw [up2_k _ (by omega)]; exact hd s' (by omega)) (fun i hi => by rw [up2_k _ (by omega)]; exact hu i hi) (fun j => by
        by_cases e : j = 16 * (3 * c + q) + s
        · rw [e, up2_same, hix]; omega
        · rw [up2_k _ e]; exact hb j)
      refine ⟨J, w_X6_tabulate_47 hl0 (fun _ _ => ?_) (e1 := fun h => absurd h (by omega)) (e2 := fun _ h => absurd h (by omega)) (v3 := fun _ _ => by omega) (v4 := fun _ _ => by rw [x0]; omega) (v5 := fun _ _ => by omega) (v6 := fun _ _ => by rw [x1]; omega) (v7 := fun _ _ a b hab hb2 => by rw [x1] at hb2; rw [xc, hcd a (by omega), hcd b (by omega)]; have := cd_lt hr hab (show b < lnC r by omega); omega) (v8 := fun _ _ => by rw [hrc]; omega), g2⟩
      rw [hv, hv2, hidx]
      exact g1
  have r0 : I a0 0 = (r : Int) := h0
  have X0a : ∀ a, a ≠ a0 + 2 → a ≠ a0 + 3 → X0 a = I a := fun a h2 h3 => by
    rw [hX0]
    funext j
    rw [up2_a _ h3]
    unfold spI
    rw [up1_o _ h2]
  have X03 : X0 (a0 + 3) = up1 (I (a0 + 3)) (3 * c + q) (R : Int) := by
    rw [hX0, up2_up1, up1_same]
    unfold spI
    rw [up1_o _ (by omega)]
  obtain ⟨J, g1, g2, g3, g4, g5⟩ := lp (swM R) 0 X0 (by omega) (fun _ _ => rfl) (fun s' hs' => absurd hs' (by omega)) (fun i _ => by rw [X0a (a0 + 4) (by omega) (by omega)]) (fun i => by rw [X0a (a0 + 4) (by omega) (by omega)]; exact hb i)
  refine ⟨J, w_X6_tabulate_0 hl0 ?_ (v1 := by omega) (v2 := by rw [h0]; omega) (v3 := by rw [h0, hcode]; exact d0) (v4 := by omega) (v7 := by rw [hrc]; omega) (v8 := fun _ => by rw [hcode, h0, hRc]; omega), fun a h2 h3 h4 => by rw [g2 a h4]; exact X0a a h2 h3, by rw [g2 (a0 + 3) (by omega)]; exact X03, g3, g4, g5⟩
  rw [hcode, h0, hRc, hsm.1, hat, Int.toNat_natCast, i2b_small (by omega), ← hX0]
  exact g1
end
end
