/-! ===== the ring's size and the border's edges, the class's ===== -/
noncomputable section
def lkL (f : Nat → Int) (l : List (Int × Int)) : Nat → Int := l.foldl (fun f e => lk f e.1 e.2) f
theorem lkL_snoc (f : Nat → Int) (l : List (Int × Int)) (a b : Int) : lk (lkL f l) a b = lkL f (l ++ [(a, b)]) := by
  unfold lkL
  rw [List.foldl_append]
  rfl
theorem lkL_app (f : Nat → Int) (l m : List (Int × Int)) : lkL (lkL f l) m = lkL f (l ++ m) := by
  unfold lkL
  rw [List.foldl_append]
theorem lkP_L (f : Nat → Int) (v at0 r : Int) : ∀ n : Nat, lkP f v at0 r n = lkL f (edP v at0 r n)
  | 0 => rfl
  | n + 1 => by
    unfold lkP
    rw [lkP_L f v at0 r n, lkL_snoc]
    rfl
section
variable {d : Nat} {I : Nat → Nat → Int} {S : PS}
def prB (I : Nat → Nat → Int) (a0 : Nat) : Int := if ¬(I a0 1 = I a0 0) then ((I a0 0 - (I a0 1)) - 1 : Int) else 0
def prT (I : Nat → Nat → Int) (a0 : Nat) (k : Nat) : Int := smI (fun i => f_X3_edgesToRing I a0 i - 1) k
def prC (I : Nat → Nat → Int) (a0 : Nat) : Int := if I a0 1 = 0 then I a0 0 else prB I a0 + prT I a0 (I a0 1).toNat
theorem prB_in {a0 : Nat} (h : cPc I a0) : 0 ≤ prB I a0 ∧ prB I a0 ≤ 6 := by
  obtain ⟨h1, h2, _⟩ := h
  unfold prB
  split <;> omega
theorem prT_in {a0 : Nat} (h : cPc I a0) : ∀ k : Nat, (k : Int) ≤ I a0 1 → (k : Int) ≤ prT I a0 k ∧ prT I a0 k ≤ 7 * k
  | 0, _ => by show ((0 : Nat) : Int) ≤ 0 ∧ (0 : Int) ≤ 7 * ((0 : Nat) : Int); omega
  | k + 1, hk => by
    have i1 := prT_in h k (by omega)
    have i2 := etr_in (x1 := (k : Int)) h (by omega)
    show ((k + 1 : Nat) : Int) ≤ prT I a0 k + (f_X3_edgesToRing I a0 k - 1) ∧ prT I a0 k + (f_X3_edgesToRing I a0 k - 1) ≤ 7 * ((k + 1 : Nat) : Int)
    omega
theorem prT_mono {a0 : Nat} (h : cPc I a0) {k : Nat} : ∀ {n : Nat}, k ≤ n → (n : Int) ≤ I a0 1 → prT I a0 k ≤ prT I a0 n := by
  intro n hn
  induction hn with
  | refl => intro _; exact Int.le_refl _
  | step hs ih =>
    rename_i m
    intro hm
    have i1 := ih (by omega)
    have i2 := etr_in (x1 := (m : Int)) h (by omega)
    show prT I a0 k ≤ prT I a0 m + (f_X3_edgesToRing I a0 m - 1)
    omega
theorem c_X3_placesOfRing {a0 : Nat} (hl0 : LyX3 S a0) (h : cPc I a0) : Ca (d + 2) mX3_placesOfRing [vR (some (14, 0, a0))] (I, S) (.inl (some (vI (prC I a0)))) (I, S) := by
  obtain ⟨h1, h2, h3⟩ := id h
  have hb := prB_in h
  unfold prC
  refine w_X3_placesOfRing_0 hl0 (fun hc => ?_) (fun hc => (if_pos hc).symm)
  rw [if_neg hc]
  have main := up_loopN (P := fun k => L_X3_placesOfRing_37 d a0 (prB I a0 + prT I a0 k) k I S (prB I a0 + prT I a0 (I a0 1).toNat) (I, S)) (n := (I a0 1).toNat) ?_ ?_
  · have e : prB I a0 + prT I a0 0 = (if ¬(I a0 1 = I a0 0) then ((I a0 0 - (I a0 1)) - 1 : Int) else 0) := by
      show prB I a0 + 0 = _
      rw [Int.add_zero]; rfl
    rw [e] at main
    exact main
  · exact w_X3_placesOfRing_37 hl0 (fun hh => absurd hh (by omega)) (fun _ => rfl)
  · intro k hk ih
    have i1 := prT_in h k (by omega)
    have i2 := etr_in (x1 := (k : Int)) h (by omega)
    refine w_X3_placesOfRing_37 hl0 (fun _ => ?_) (fun hh => absurd hh (by omega))
    have e : prB I a0 + prT I a0 (k + 1) = prB I a0 + prT I a0 k + (f_X3_edgesToRing I a0 k - 1) := by
      show prB I a0 + (prT I a0 k + (f_X3_edgesToRing I a0 k - 1)) = _
      omega
    have ih : L_X3_placesOfRing_37 d a0 (prB I a0 + prT I a0 (k + 1)) ((k : Int) + 1) I S (prB I a0 + prT I a0 (I a0 1).toNat) (I, S) := ih
    rw [e] at ih
    exact ih
/-- the border's edges -/
def edC (I : Nat → Nat → Int) (a0 : Nat) : Nat → Int × List (Int × Int) := edB (fun i => I a0 3 + 1 + (i : Int)) (fun i => f_X3_edgesToRing I a0 i) (I a0 3)
theorem edC_1 (I : Nat → Nat → Int) (a0 : Nat) : ∀ k : Nat, (edC I a0 k).1 = prT I a0 k
  | 0 => rfl
  | k + 1 => by
    show (edC I a0 k).1 + (f_X3_edgesToRing I a0 k - 1) = prT I a0 k + (f_X3_edgesToRing I a0 k - 1)
    rw [edC_1 I a0 k]
def edCL (I : Nat → Nat → Int) (a0 : Nat) : List (Int × Int) := (edC I a0 (I a0 1).toNat).2 ++ (if ¬(I a0 1 = I a0 0) then edP (I a0 3) (edC I a0 (I a0 1).toNat).1 (I a0 3) (I a0 0 - I a0 1).toNat else [])
theorem etr_up {a0 : Nat} {F : Nat → Int} (x : Int) : f_X3_edgesToRing (up1 I (a0 + 2) F) a0 x = f_X3_edgesToRing I a0 x := by
  unfold f_X3_edgesToRing
  rw [up1_o I (show a0 ≠ a0 + 2 by omega), up1_o I (show a0 + 1 ≠ a0 + 2 by omega)]
theorem c_X3_linkBorder {a0 : Nat} (hl0 : LyX3 S a0) (h : cPc I a0) (hr : I a0 3 = prC I a0) (hr7 : I a0 3 ≤ 7) : Ca (d + 2) mX3_linkBorder [vR (some (14, 0, a0))] (I, S) (.inl none) (up1 I (a0 + 2) (lkL (I (a0 + 2)) (edCL I a0)), S) := by
  obtain ⟨h1, h2, h3⟩ := id h
  have hb := prB_in h
  have hr1 : 1 ≤ I a0 3 ∧ ∀ k : Nat, (k : Int) ≤ I a0 1 → prT I a0 k ≤ I a0 3 := by
    rw [hr]; unfold prC
    by_cases hz : I a0 1 = 0
    · rw [if_pos hz]
      refine ⟨by omega, fun k hk => ?_⟩
      have := prT_in h k hk
      omega
    · rw [if_neg hz]
      have t1 := prT_in h (I a0 1).toNat (by omega)
      refine ⟨by omega, fun k hk => ?_⟩
      have := prT_mono h (k := k) (n := (I a0 1).toNat) (by omega) (by omega)
      omega
  refine w_X3_linkBorder_0 hl0 ?_
  refine up_loopN (P := fun k => ∀ J, J = up1 I (a0 + 2) (lkL (I (a0 + 2)) (edC I a0 k).2) → L_X3_linkBorder_4 d a0 (prT I a0 k) k J S (up1 I (a0 + 2) (lkL (I (a0 + 2)) (edCL I a0)), S)) (n := (I a0 1).toNat) ?_ ?_ I (up1_self I (a0 + 2)).symm
  · intro J hJ
    have e0 : J a0 = I a0 := by rw [hJ, up1_o I (by omega)]
    have j0 := congrFun e0 0
    have j1 := congrFun e0 1
    have j3 := congrFun e0 3
    have t1 := prT_in h (I a0 1).toNat (by omega)
    have t2 := hr1.2 (I a0 1).toNat (by omega)
    refine w_X3_linkBorder_4 hl0 (fun hh => absurd hh (by omega)) (fun _ c => ?_) (fun _ c => ?_) (v6 := fun hh => absurd hh (by omega)) (v8 := fun hh => absurd hh (by omega)) (v9 := fun hh => absurd hh (by omega)) (v10 := fun hh => absurd hh (by omega)) (v11 := fun hh => absurd hh (by omega)) (v12 := fun hh => absurd hh (by omega)) (v13 := fun hh => absurd hh (by omega))
    · rw [hJ]
      unfold edCL
      rw [if_neg (show ¬¬(I a0 1 = I a0 0) from fun q => q (by omega)), List.append_nil]
    · rw [lkP_L, e0, hJ, up1_same, up1_up1, lkL_app]
      unfold edCL
      rw [if_pos (show ¬(I a0 1 = I a0 0) by omega), edC_1]
  · intro k hk ih J hJ
    have e0 : J a0 = I a0 := by rw [hJ, up1_o I (by omega)]
    have j0 := congrFun e0 0
    have j1 := congrFun e0 1
    have j3 := congrFun e0 3
    have e1 : J (a0 + 1) = I (a0 + 1) := by rw [hJ, up1_o I (by omega)]
    have t1 := prT_in h k (by omega)
    have t2 := hr1.2 k (by omega)
    have t3 := etr_in (x1 := (k : Int)) h (by omega)
    have ee : f_X3_edgesToRing J a0 k = f_X3_edgesToRing I a0 k := by rw [hJ]; exact etr_up k
    have hcJ : cPc J a0 := by unfold cPc; rw [e0, e1]; exact h
    refine w_X3_linkBorder_4 hl0 (fun _ => ?_) (fun hh => absurd hh (by omega)) (fun hh => absurd hh (by omega))
    rw [ee]
    refine ih _ ?_
    rw [lkP_L, e0, hJ, up1_same, up1_up1, lkL_app]
    congr 2
    show _ = (edC I a0 k).2 ++ edP _ (edC I a0 k).1 _ _
    rw [edC_1]
end
end
