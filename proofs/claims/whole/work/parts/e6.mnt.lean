/-! ===== whose amount it was, the reference's ===== -/
noncomputable section
section
variable {d : Nat} {I : Nat → Nat → Int} {S : PS}
theorem cm_177 (Z : Nat → Nat → Int) (F : Nat → Int) (k : Nat) (v : Int) : up2 (up1 Z 177 F) 178 k v = up1 (up2 Z 178 k v) 177 F := by
  rw [up2_up1, up2_up1, up1_o Z (by decide), up1_comm Z _ _ (by decide)]
theorem inP_up (Z : Nat → Nat → Int) (F : Nat → Int) (i : Nat) : inP (up1 Z 177 F) i = inP Z i := by
  show decide (mcs (up1 Z 177 F) 18 (Z 187 (2 * (i : Int)).toNat) = Z 187 ((2 * (i : Int)) + 1).toNat) = decide (mcs Z 18 (Z 187 (2 * (i : Int)).toNat) = Z 187 ((2 * (i : Int)) + 1).toNat)
  rw [mcs_up]
/-- the row that is tried -/
def mtB (I : Nat → Nat → Int) : Nat → Nat → Int := trI (up2 I 156 0 0)
def mtR (I : Nat → Nat → Int) (m : Nat) : Bool := decide (((m % 99 + 1 : Nat) : Int) ≠ I 178 (12 + m / 99)) && allB (inP (up2 (mtB I) 178 (30 + m / 99) ((m % 99 + 1 : Nat) : Int))) ((I 156 56)).toNat
theorem trI_hi (Z : Nat → Nat → Int) (j : Nat) (hj : j < 18) : trI Z 178 (18 + j) = Z 178 j := by
  show up1 Z 178 (upTo (Z 178) (fun j => Z 178 (j - 18)) 18 18) 178 (18 + j) = _
  rw [up1_same]
  rw [upTo_in (by omega)]
  show Z 178 (18 + j - 18) = _
  rw [show 18 + j - 18 = j by omega]
theorem trI_lo (Z : Nat → Nat → Int) (j : Nat) (hj : j < 18) : trI Z 178 j = Z 178 j := by
  show up1 Z 178 (upTo (Z 178) (fun j => Z 178 (j - 18)) 18 18) 178 j = _
  rw [up1_same]
  rw [upTo_out (by omega)]
theorem trI_o (Z : Nat → Nat → Int) {a : Nat} (h : a ≠ 178) : trI Z a = Z a := by
  unfold trI
  exact up1_o _ h
theorem mtB_hi (j : Nat) (hj : j < 18) : mtB I 178 (18 + j) = I 178 j := (trI_hi (up2 I 156 0 0) j hj).trans (up2_a _ (by decide))
theorem mtB_lo (j : Nat) (hj : j < 18) : mtB I 178 j = I 178 j := (trI_lo (up2 I 156 0 0) j hj).trans (up2_a _ (by decide))
def mtF (I J : Nat → Nat → Int) : Prop := (∀ a, a ≠ 177 → a ≠ 178 → a ≠ 156 → J a = I a) ∧ (∀ i, i < 18 → J 178 i = I 178 i) ∧ J 156 0 = 0 ∧ ∀ k, k ≠ 0 → J 156 k = I 156 k
theorem mtF_of (F : Nat → Int) : mtF I (up1 (mtB I) 177 F) := by
  refine ⟨fun a h1 h2 h3 => ?_, fun i hi => ?_, ?_, fun k hk => ?_⟩
  · rw [up1_o _ h1]
    exact (trI_o (up2 I 156 0 0) h2).trans (funext (fun j => up2_a _ h3))
  · rw [up1_o _ (by decide)]; exact mtB_lo i hi
  · rw [up1_o _ (by decide)]
    exact (congrFun (trI_o (up2 I 156 0 0) (a := 156) (by decide)) 0).trans (up2_same _ _ _ _)
  · rw [up1_o _ (by decide)]
    exact (congrFun (trI_o (up2 I 156 0 0) (a := 156) (by decide)) k).trans (up2_k _ hk)
theorem mt_M {x1 : Int} (hl0 : LyX12 S) (hm : mSp I) (hr : mRl I 0) (hn : 0 ≤ (I 156 56) ∧ (I 156 56) ≤ 8) (hv : ∀ k : Nat, (k : Int) < (I 156 56) → 0 ≤ I 187 (2 * (k : Int)).toNat ∧ I 187 (2 * (k : Int)).toNat < (I 156 15)) (hx : 0 ≤ x1 ∧ x1 ≤ 2) :
    ∃ J, Ca (d + 6) mX12_meant [vR (some (22, 0, 156)), vI x1] (I, S) (.inl (some (vI (if x1 = 2 then (if allB (inP (mtB I)) ((I 156 56)).toNat = true then 1 else 0) else if x1 ≠ 0 then mnF (mtR I) (99 * ((I 156 14)).toNat) else mnC (mtR I) (99 * ((I 156 14)).toNat))))) (J, S) ∧ mtF I J := by
  have hr1 := hr.1
  have hrB : ∀ k : Nat, (k : Int) < (I 156 14) → 0 ≤ mtB I 178 (30 + k) ∧ mtB I 178 (30 + k) ≤ 99 := by
    intro k hk
    have := hr.2 k hk
    rw [show 30 + k = 18 + (12 + k) by omega, mtB_hi (12 + k) (by omega)]
    rw [show ((0 : Int) + 12 + (k : Int)).toNat = 12 + k by omega] at this
    exact this
  have hmB : mSp (mtB I) := hm
  by_cases h2 : x1 = 2
  · refine ⟨inF (mtB I), w_X12_meant_0 hl0 (fun _ h => absurd h2 h) (fun _ _ => by rw [if_pos h2]; rfl) (e1 := fun _ _ => rfl) (r2 := fun h => absurd hx h) (e2 := fun h => absurd hx h) (v1 := fun _ _ => hmB) (v2 := fun _ _ => ⟨hr1, fun k hk => by rw [show ((18 : Int) + 12 + (k : Int)).toNat = 30 + k by omega]; exact hrB k hk⟩) (v3 := fun _ _ => hn) (v4 := fun _ _ => hv), mtF_of _⟩
  have outer : ∀ (t r : Nat) (F : Nat → Int), r + t = ((I 156 14)).toNat → ∃ F', L_X12_meant_45 d 156 x1 (mnC (mtR I) (99 * r)) (mnF (mtR I) (99 * r)) (r : Int) (up1 (mtB I) 177 F) S (if x1 ≠ 0 then mnF (mtR I) (99 * ((I 156 14)).toNat) else mnC (mtR I) (99 * ((I 156 14)).toNat)) (up1 (mtB I) 177 F', S) := by
    intro t
    induction t with
    | zero =>
      intro r F hk
      have e14 : (up1 (mtB I) 177 F) 156 14 = (I 156 14) := rfl
      exact ⟨F, w_X12_meant_45 hl0 (fun h => absurd h (by omega)) (fun _ => by rw [show r = ((I 156 14)).toNat by omega]) (e1 := fun _ => rfl)⟩
    | succ t ih =>
      intro r F hk
      have e14 : (up1 (mtB I) 177 F) 156 14 = (I 156 14) := rfl
      have inner : ∀ (q a : Nat) (y : Int) (F : Nat → Int), a + q = 100 → 1 ≤ a → ∃ F', L_X12_meant_57 d 156 x1 (mnC (mtR I) (99 * r + (a - 1))) (mnF (mtR I) (99 * r + (a - 1))) (r : Int) (a : Int) (up1 (up2 (mtB I) 178 (30 + r) y) 177 F) S (if x1 ≠ 0 then mnF (mtR I) (99 * ((I 156 14)).toNat) else mnC (mtR I) (99 * ((I 156 14)).toNat)) (up1 (mtB I) 177 F', S) := by
        intro q
        induction q with
        | zero =>
          intro a y F hq h1
          obtain ⟨F', g1⟩ := ih (r + 1) F (by omega)
          have e12 : (up1 (up2 (mtB I) 178 (30 + r) y) 177 F) 178 (12 + (r : Int)).toNat = I 178 (12 + r) := by
            rw [up1_o _ (by decide), show (12 + (r : Int)).toNat = 12 + r by omega, up2_k _ (by omega)]
            exact mtB_lo _ (by omega)
          refine ⟨F', w_X12_meant_57 hl0 (fun _ => ?_) (fun h => absurd h (by omega)) (fun h => absurd h (by omega)) (v3 := fun _ => by omega) (v4 := fun _ => by omega) (v7 := fun h => absurd h (by omega)) (v9 := fun h => absurd h (by omega)) (v11 := fun h => absurd h (by omega)) (v12 := fun h => absurd h (by omega)) (v13 := fun h => absurd h (by omega)) (v14 := fun h => absurd h (by omega))⟩
          rw [e12, cm_177, show (30 + (r : Int)).toNat = 30 + r by omega, up2_up2, show I 178 (12 + r) = mtB I 178 (30 + r) by rw [show 30 + r = 18 + (12 + r) by omega, mtB_hi (12 + r) (by omega)], up2_self, show 99 * r + (a - 1) = 99 * (r + 1) by omega]
          exact g1
        | succ q ihq =>
          intro a y F hq h1
          have hm9 := m99 r a (by omega)
          obtain ⟨m, hmm⟩ : ∃ m, m = 99 * r + (a - 1) := ⟨_, rfl⟩
          rw [← hmm] at hm9
          have hnx : 99 * r + (a + 1 - 1) = m + 1 := by omega
          have hlC := mnC_le (mtR I) m
          have hlD := mnC_le (mtR I) (99 * r + (a - 1))
          have eh : up2 (up1 (up2 (mtB I) 178 (30 + r) y) 177 F) 178 (30 + (r : Int)).toNat (a : Int) = up1 (up2 (mtB I) 178 (30 + r) (a : Int)) 177 F := by
            rw [cm_177, show (30 + (r : Int)).toNat = 30 + r by omega, up2_up2]
          have e12 : (up1 (up2 (mtB I) 178 (30 + r) (a : Int)) 177 F) 178 (12 + (r : Int)).toNat = I 178 (12 + r) := by
            rw [up1_o _ (by decide), show (12 + (r : Int)).toNat = 12 + r by omega, up2_k _ (by omega)]
            exact mtB_lo _ (by omega)
          have hQ : mtR I m = (decide ((a : Int) ≠ I 178 (12 + r)) && allB (inP (up2 (mtB I) 178 (30 + r) (a : Int))) ((I 156 56)).toNat) := by
            unfold mtR
            rw [hm9.1, hm9.2]
          have eA : allB (inP (up1 (up2 (mtB I) 178 (30 + r) (a : Int)) 177 F)) ((I 156 56)).toNat = allB (inP (up2 (mtB I) 178 (30 + r) (a : Int))) ((I 156 56)).toNat := allB_congr (fun i _ => inP_up _ _ _)
          have hmK : mSp (up1 (up2 (mtB I) 178 (30 + r) (a : Int)) 177 F) := hm
          have hrK : mRl (up1 (up2 (mtB I) 178 (30 + r) (a : Int)) 177 F) 18 := by
            refine ⟨hr1, fun k hk => ?_⟩
            rw [up1_o _ (by decide), show ((18 : Int) + 12 + (k : Int)).toNat = 30 + k by omega]
            by_cases e : k = r
            · rw [e, up2_same]; omega
            · rw [up2_k _ (by omega)]; exact hrB k hk
          by_cases c1 : (a : Int) = I 178 (12 + r)
          · have hq0 : mtR I m = false := by rw [hQ, decide_eq_false (fun c => c c1), Bool.false_and]
            obtain ⟨F', g1⟩ := ihq (a + 1) (a : Int) F (by omega) (by omega)
            rw [hnx, mnC_f hq0, mnF_f hq0] at g1
            refine ⟨F', w_X12_meant_57 hl0 (fun h => absurd h (by omega)) (fun _ _ => ?_) (fun _ h => absurd (by rw [eh, e12]; exact c1) h) (v3 := fun h => absurd h (by omega)) (v4 := fun h => absurd h (by omega)) (v7 := fun _ => by omega) (v9 := fun _ => by omega) (v11 := fun _ _ => by rw [eh]; exact hmK) (v12 := fun _ _ => by rw [eh]; exact hrK) (v13 := fun _ _ => hn) (v14 := fun _ _ => hv)⟩
            rw [eh, ← hmm]
            exact g1
          · have eF : inF (up1 (up2 (mtB I) 178 (30 + r) (a : Int)) 177 F) = up1 (up2 (mtB I) 178 (30 + r) (a : Int)) 177 (scN (up1 (up2 (mtB I) 178 (30 + r) (a : Int)) 177 F) (inN (up1 (up2 (mtB I) 178 (30 + r) (a : Int)) 177 F))) := by
              show up1 (up1 _ 177 F) 177 _ = _
              rw [up1_up1]
            obtain ⟨F', g1⟩ := ihq (a + 1) (a : Int) (scN (up1 (up2 (mtB I) 178 (30 + r) (a : Int)) 177 F) (inN (up1 (up2 (mtB I) 178 (30 + r) (a : Int)) 177 F))) (by omega) (by omega)
            rw [hnx] at g1
            refine ⟨F', w_X12_meant_57 hl0 (fun h => absurd h (by omega)) (fun _ h => absurd (by rw [eh, e12] at h; exact h) c1) (fun _ _ => ?_) (v3 := fun h => absurd h (by omega)) (v4 := fun h => absurd h (by omega)) (v7 := fun _ => by omega) (v9 := fun _ => by omega) (v11 := fun _ _ => by rw [eh]; exact hmK) (v12 := fun _ _ => by rw [eh]; exact hrK) (v13 := fun _ _ => hn) (v14 := fun _ _ => hv)⟩
            rw [eh, eF, ← hmm]
            have e56 : (up1 (up2 (mtB I) 178 (30 + r) y) 177 F) 156 56 = (I 156 56) := rfl
            rw [e56, eA]
            cases hz : allB (inP (up2 (mtB I) 178 (30 + r) (a : Int))) ((I 156 56)).toNat with
            | true =>
              have hq1 : mtR I m = true := by rw [hQ, decide_eq_true c1, hz]; rfl
              rw [mnC_t hq1, mnF_t hq1] at g1
              rw [if_pos rfl, if_pos rfl]
              have e3 : (if mnF (mtR I) m ≠ (-1) then (mnF (mtR I) m : Int) else (100 * (r : Int)) + (a : Int)) = (if fstB (mtR I) m ≠ -1 then mnF (mtR I) m else 100 * ((m : Int) / 99) + ((m : Int) % 99 + 1)) := by
                have h0 := mnF_m1 (mtR I) m
                by_cases c : fstB (mtR I) m = -1
                · rw [if_neg (fun k => k (h0.mpr c)), if_neg (fun k => k c)]; omega
                · rw [if_pos (fun k => c (h0.mp k)), if_pos c]
              rw [e3]
              exact g1
            | false =>
              have hq0 : mtR I m = false := by rw [hQ, hz, Bool.and_false]
              rw [mnC_f hq0, mnF_f hq0] at g1
              rw [if_neg (by decide), if_neg (by decide)]
              exact g1
      obtain ⟨F', g1⟩ := inner 99 1 (mtB I 178 (30 + r)) F rfl (Nat.le_refl 1)
      rw [up2_self] at g1
      exact ⟨F', w_X12_meant_45 hl0 (fun _ => g1) (fun h => absurd h (by omega)) (e1 := fun h => absurd h (by omega))⟩
  obtain ⟨F', g1⟩ := outer ((I 156 14)).toNat 0 (mtB I 177) (by omega)
  rw [up1_self] at g1
  refine ⟨up1 (mtB I) 177 F', w_X12_meant_0 hl0 (fun _ _ => ?_) (fun _ h => absurd h h2) (e1 := fun _ h => absurd h h2) (r2 := fun h => absurd hx h) (e2 := fun h => absurd hx h) (v1 := fun _ h => absurd h h2) (v2 := fun _ h => absurd h h2) (v3 := fun _ h => absurd h h2) (v4 := fun _ h => absurd h h2), mtF_of F'⟩
  rw [if_neg h2]
  exact g1
end
end
