/-! ===== the class's chain ===== -/
noncomputable section
section
variable {d : Nat} {I : Nat → Nat → Int} {S : PS}
def adC (f : Nat → Int) (u i : Nat) : Bool := bt (f u) i
def chC (having near : Nat → Int) (m s c : Int) : Int := if colO having s ≠ -1 ∧ colO having s ≠ c ∧ 0 ≤ c ∧ c < 4 then chV (adC near) (fun i => bt (p_or (having (colO having s).toNat) (having c.toNat)) i) s.toNat m.toNat else 0
theorem colO_in (f : Nat → Int) (s : Int) : -1 ≤ colO f s ∧ colO f s ≤ 3 := by
  unfold colO
  split
  · omega
  · split
    · omega
    · split
      · omega
      · split <;> omega
theorem c_X2_chainOf {a0 a1 : Nat} {x2 x3 : Int} (hl0 : LyX2 S a0) (hl1 : LyX0 S a1) (hm : 0 ≤ I a1 6 ∧ I a1 6 ≤ 12) (hs : 0 ≤ x2 ∧ x2 < I a1 6) (hn : ∀ u i : Nat, (u : Int) < I a1 6 → bt (I (a1 + 5) u) i = true → (i : Int) < I a1 6) : Ca (d + 1) mX2_chainOf [vR (some (13, 0, a0)), vR (some (11, 0, a1)), vI x2, vI x3] (I, S) (.inl (some (vI (chC (I (a0 + 1)) (I (a1 + 5)) (I a1 6) x2 x3)))) (I, S) := by
  have hc := colO_in (I (a0 + 1)) x2
  unfold chC
  refine w_X2_chainOf_0 hl0 hl1 (fun c1 c2 c3 => ?_) (fun c => by rw [if_neg (fun q => q.1 c)]) (r2 := fun _ c => by rw [if_neg (fun q => q.2.1 c)]) (r3 := fun _ _ c => by rw [if_neg (fun q => c q.2.2)])
  rw [if_pos ⟨c1, c2, c3⟩]
  obtain ⟨both, hbo⟩ : ∃ q, q = p_or (I (a0 + 1) (colO (I (a0 + 1)) x2).toNat) (I (a0 + 1) x3.toNat) := ⟨_, rfl⟩
  obtain ⟨m, hmm⟩ : ∃ q, q = (I a1 6).toNat := ⟨_, rfl⟩
  obtain ⟨ok, hok⟩ : ∃ q : Nat → Bool, q = fun i => bt both i := ⟨_, rfl⟩
  rw [← hbo, ← hmm, ← hok]
  have hlt : ∀ u i, u < m → adC (I (a1 + 5)) u i = true → i < m := fun u i hu ha => by
    have := hn u i (by omega) ha
    omega
  have main : ∀ (j n : Nat) (x6 x7 : Int), n + j = m → isI x6 → isI x7 → (∀ i, i < 32 → bt x6 i = rch (adC (I (a1 + 5))) ok x2.toNat m n i) → (∀ i, i < 32 → bt x7 i = (rch (adC (I (a1 + 5))) ok x2.toNat m n i && !(decide (1 ≤ n) && rch (adC (I (a1 + 5))) ok x2.toNat m (n - 1) i))) → L_X2_chainOf_56 d a0 a1 x2 x3 (colO (I (a0 + 1)) x2) both x6 x7 n I S (chV (adC (I (a1 + 5))) ok x2.toNat m) (I, S) := by
    intro j
    induction j with
    | zero =>
      intro n x6 x7 hj i6 i7 h6 h7
      exact w_X2_chainOf_56 hl0 hl1 (fun h => absurd h (by omega)) (fun _ => chV_of (by omega) (by omega) hlt i6 h6 (Or.inr (by omega))) (r2 := fun h => absurd h (by omega))
    | succ j ih =>
      intro n x6 x7 hj i6 i7 h6 h7
      refine w_X2_chainOf_56 hl0 hl1 (fun _ hne => ?_) (fun h => absurd h (by omega)) (r2 := fun _ h0 => ?_)
      · have inner : ∀ (ju U : Nat) (y : Int), U + ju = m → isI y → (∀ i, i < 32 → bt y i = anyB (fun u => bt x7 u && adC (I (a1 + 5)) u i) U) → L_X2_chainOf_76 d a0 a1 x2 x3 (colO (I (a0 + 1)) x2) both x6 x7 n y U I S (chV (adC (I (a1 + 5))) ok x2.toNat m) (I, S) := by
          intro ju
          induction ju with
          | zero =>
            intro U y hU iy hy
            refine w_X2_chainOf_76 hl0 hl1 (fun _ => ?_) (fun h => absurd h (by omega))
            have hfr : ∀ i, i < 32 → bt (p_and (p_and y both) (p_xor x6 (-1))) i = ((ok i && anyB (fun u => rch (adC (I (a1 + 5))) ok x2.toNat m n u && adC (I (a1 + 5)) u i) m) && !rch (adC (I (a1 + 5))) ok x2.toNat m n i) := by
              intro i hi
              rw [bt_and, bt_and, bt_not hi, h6 i hi, hy i hi, show U = m by omega]
              have hb : bt both i = ok i := by rw [hok]
              rw [hb]
              cases ho : ok i with
              | false => rw [Bool.and_false, Bool.false_and, Bool.false_and, Bool.false_and]
              | true =>
                cases hr : rch (adC (I (a1 + 5))) ok x2.toNat m n i with
                | true => rw [Bool.not_true, Bool.and_false, Bool.and_false]
                | false =>
                  rw [Bool.and_true, Bool.true_and]
                  congr 1
                  refine anyB_congr (fun u hu => ?_)
                  rw [h7 u (by omega)]
                  cases ha : adC (I (a1 + 5)) u i with
                  | false => rw [Bool.and_false, Bool.and_false]
                  | true =>
                    rw [Bool.and_true, Bool.and_true]
                    cases hru : rch (adC (I (a1 + 5))) ok x2.toNat m n u with
                    | false => rfl
                    | true =>
                      rw [Bool.true_and]
                      cases hv : decide (1 ≤ n) && rch (adC (I (a1 + 5))) ok x2.toNat m (n - 1) u with
                      | false => rfl
                      | true =>
                        exfalso
                        obtain ⟨q1, q2⟩ := Bool.and_eq_true_iff.mp hv
                        have q1 := of_decide_eq_true q1
                        have : rch (adC (I (a1 + 5))) ok x2.toNat m (n - 1 + 1) i = true := by
                          show (_ || (ok i && anyB _ m)) = true
                          rw [ho, anyB_yes (p := fun u => rch (adC (I (a1 + 5))) ok x2.toNat m (n - 1) u && adC (I (a1 + 5)) u i) hu (by show (rch (adC (I (a1 + 5))) ok x2.toNat m (n - 1) u && adC (I (a1 + 5)) u i) = true; rw [q2, ha]; rfl)]
                          rw [Bool.and_true, Bool.or_true]
                        rw [show n - 1 + 1 = n by omega, hr] at this
                        cases this
            have := ih (n + 1) (p_or x6 (p_and (p_and y both) (p_xor x6 (-1)))) (p_and (p_and y both) (p_xor x6 (-1))) (by omega) (isI_or _ _) (isI_and _ _) (fun i hi => ?_) (fun i hi => ?_)
            · exact this
            · rw [bt_or, h6 i hi, hfr i hi]
              show _ = (_ || _)
              cases rch (adC (I (a1 + 5))) ok x2.toNat m n i with
              | true => rfl
              | false => rw [Bool.not_false, Bool.and_true]
            · rw [hfr i hi, decide_eq_true (by omega), Bool.true_and, Nat.add_sub_cancel]
              show _ = ((rch (adC (I (a1 + 5))) ok x2.toNat m n i || _) && _)
              cases rch (adC (I (a1 + 5))) ok x2.toNat m n i with
              | true => rw [Bool.not_true, Bool.and_false, Bool.and_false]
              | false => rw [Bool.false_or]
          | succ ju ihu =>
            intro U y hU iy hy
            refine w_X2_chainOf_76 hl0 hl1 (fun h => absurd h (by omega)) (fun _ => ?_)
            have tst := p_tst_0 (x := x7) (s := (U : Int)) (by omega)
            rw [Int.toNat_natCast] at tst
            by_cases hc : p_and (p_shr x7 (U : Int)) 1 = 0
            · rw [if_pos hc]
              refine ihu (U + 1) y (by omega) iy (fun i hi => ?_)
              rw [hy i hi]
              show _ = (anyB _ U || (bt x7 U && _))
              rw [tst.mp hc, Bool.false_and, Bool.or_false]
            · rw [if_neg hc]
              refine ihu (U + 1) _ (by omega) (isI_or _ _) (fun i hi => ?_)
              rw [bt_or, hy i hi, Int.toNat_natCast]
              show _ = (anyB _ U || (bt x7 U && adC (I (a1 + 5)) U i))
              have : bt x7 U = true := by
                cases q : bt x7 U with
                | true => rfl
                | false => exact absurd (tst.mpr q) hc
              rw [this, Bool.true_and]
              rfl
        refine inner m 0 0 (by omega) ⟨by decide, by decide⟩ (fun i hi => ?_)
        rw [bt_zero]; rfl
      · -- nothing fresh
        have e7 : ∀ i, i < 32 → (rch (adC (I (a1 + 5))) ok x2.toNat m n i && !(decide (1 ≤ n) && rch (adC (I (a1 + 5))) ok x2.toNat m (n - 1) i)) = false := fun i hi => by rw [← h7 i hi, h0, bt_zero]
        have hn1 : 1 ≤ n := by
          by_cases q : 1 ≤ n
          · exact q
          · exfalso
            have e := e7 x2.toNat (by omega)
            have : rch (adC (I (a1 + 5))) ok x2.toNat m n x2.toNat = true := by
              rw [show n = 0 by omega]; exact decide_eq_true rfl
            rw [this, decide_eq_false q] at e
            cases e
        have all : ∀ i, rch (adC (I (a1 + 5))) ok x2.toNat m (n - 1 + 1) i = rch (adC (I (a1 + 5))) ok x2.toNat m (n - 1) i := by
          intro i
          cases q2 : rch (adC (I (a1 + 5))) ok x2.toNat m (n - 1) i with
          | true => exact rch_mono q2
          | false =>
            rw [show n - 1 + 1 = n by omega]
            cases q : rch (adC (I (a1 + 5))) ok x2.toNat m n i with
            | false => rfl
            | true =>
              have hi := rch_lt (by omega) hlt q
              have e := e7 i (by omega)
              rw [q, q2, Bool.and_false] at e
              cases e
        refine chV_of (n := n) (by omega) (by omega) hlt i6 h6 (Or.inl (fun i => ?_))
        rw [rch_stay all (n + 1) (by omega) i, rch_stay all n (by omega) i]
  refine main m 0 (p_shl 1 x2) (p_shl 1 x2) (by omega) (isI_shl _ _) (isI_shl _ _) (fun i hi => ?_) (fun i hi => ?_)
  · rw [bt_bit (by omega)]; rfl
  · rw [bt_bit (by omega), decide_eq_false (show ¬(1 ≤ 0) by omega), Bool.false_and, Bool.not_false, Bool.and_true]; rfl
end
end
