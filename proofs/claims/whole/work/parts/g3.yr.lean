/-! ===== years gone through: both sides ===== -/
noncomputable section
def yrD (adj : Nat → Nat → Bool) (n : Nat) (g : Nat → Int) (seed : Int) (N : Nat) : (Nat → Int) × Int := if n = 0 then (g, 0) else ((yrG adj n g seed N).1, (yrG adj n g seed N).2.2)
/-- whether a colour is used -/
def clU (g : Nat → Int) (n : Nat) (c : Nat) : Bool := anyB (fun i => decide (g i = (c : Int))) n
def clN4 (g : Nat → Int) (n : Nat) : Int := smI (fun c => if clU g n c = true then 1 else 0) 4
theorem unl_eq {f g : Nat → Int} {n : Nat} (h : pnt f g n) : unl f 4 = clN4 g n := by
  have key : ∀ k : Nat, k ≤ 4 → unl f k = smI (fun c => if clU g n c = true then 1 else 0) k := by
    intro k
    induction k with
    | zero => intro _; rfl
    | succ k ih =>
      intro hk
      have hu := pnt_unused h (show k < 4 by omega)
      show (if f k = 0 then (unl f k : Int) else unl f k + 1) = smI (fun c => if clU g n c = true then 1 else 0) k + (if clU g n k = true then 1 else 0)
      rw [ih (by omega)]
      cases hc : clU g n k with
      | true =>
        obtain ⟨i, hi, e⟩ := anyB_iff.mp hc
        rw [if_neg (fun q => hu.mp q i hi (of_decide_eq_true e)), if_pos rfl]
      | false =>
        rw [if_pos (hu.mpr (fun i hi e => by rw [clU, anyB_yes hi (decide_eq_true e)] at hc; cases hc)), if_neg (by decide), Int.add_zero]
  exact key 4 (Nat.le_refl 4)
def clO (g : Nat → Int) : Nat → Int
  | 0 => 0
  | k + 1 => p_or (clO g k) (if g k ≠ -1 then p_shl 1 (g k) else 0)
theorem clO_bt {g : Nat → Int} : ∀ {k : Nat}, (∀ i, i < k → -1 ≤ g i ∧ g i ≤ 3) → ∀ c : Nat, bt (clO g k) c = clU g k c
  | 0, _, c => bt_zero c
  | k + 1, h, c => by
    have ih := clO_bt (k := k) (fun i hi => h i (by omega)) c
    have hk := h k (by omega)
    show bt (p_or (clO g k) (if g k ≠ -1 then p_shl 1 (g k) else 0)) c = (clU g k c || decide (g k = (c : Int)))
    rw [bt_or, ih]
    by_cases e : g k ≠ -1
    · rw [if_pos e, bt_bit (by omega)]
      congr 1
      exact decide_eq_decide.mpr (by omega)
    · rw [if_neg e, bt_zero, decide_eq_false (by omega)]
theorem clO_cnt {g : Nat → Int} {n : Nat} (h : ∀ i, i < n → -1 ≤ g i ∧ g i ≤ 3) : bcn (clO g n) 15 = clN4 g n := by
  have hb := clO_bt h
  rw [bcn_zero (n := 4) (m := 15) (by decide) (fun c hc => by
    rw [hb c]
    cases e : clU g n c with
    | false => rfl
    | true =>
      obtain ⟨i, hi, q⟩ := anyB_iff.mp e
      have := h i hi
      have := of_decide_eq_true q
      omega)]
  have key : ∀ k : Nat, bcn (clO g n) k = smI (fun c => if clU g n c = true then 1 else 0) k := by
    intro k
    induction k with
    | zero => rfl
    | succ k ih =>
      show bcn (clO g n) k + (if bt (clO g n) k then 1 else 0) = _
      rw [ih, hb k]
      rfl
  exact key 4
section
variable {d : Nat} {I : Nat → Nat → Int} {S : PS} {T n : Nat} {adj : Nat → Nat → Bool} {g : Nat → Int}
theorem ly_C {seed : Int} {N : Nat} (hT : T = 34 ∨ T = 77) (hl0 : LyX8 S) (hl1 : LyX0 S T) (hA : cAd I T n adj) (hp : pnt (I 146) g n) (hN : N ≤ 100) : ∃ F, Ca (d + 3) mX8_liveYears [vR (some (18, 0, 144)), vR (some (11, 0, T)), vI seed, vI (N : Int)] (I, S) (.inl (some (vI (yrD adj n g seed N).2))) (up1 I 146 F, S) ∧ pnt F (yrD adj n g seed N).1 n := by
  by_cases hn0 : n = 0
  · have hD : yrD adj n g seed N = (g, 0) := if_pos hn0
    have hT6 : I T 6 = 0 := by rw [hA.1, hn0]; rfl
    rw [hD]
    refine ⟨I 146, w_X8_liveYears_0 hl0 hl1 (w_X8_liveYears_9 (z1 := true) (J1 := I) hl0 hl1 (fun _ h => absurd h (by omega)) (fun _ h => absurd h (by omega)) (fun _ => rfl) (r2 := fun _ _ => rfl) (e1 := fun _ => by rw [up1_self]) (e2 := fun _ _ => by rw [up1_self]) (v1 := fun _ h => absurd h (by omega)) (v2 := fun _ h => absurd h (by omega)) (v3 := fun _ h => absurd h (by omega)) (v4 := fun _ h => absurd h (by omega))), hp⟩
  · have hD : yrD adj n g seed N = ((yrG adj n g seed N).1, (yrG adj n g seed N).2.2) := if_neg hn0
    rw [hD]
    have lp : ∀ (t k : Nat) (F : Nat → Int), k + t = N → pnt F (yrG adj n g seed k).1 n → ∃ F', L_X8_liveYears_9 d 144 T seed (N : Int) (yrG adj n g seed k).2.2 (yrG adj n g seed k).2.1 (k : Int) (up1 I 146 F) S (yrG adj n g seed N).2.2 (up1 I 146 F', S) ∧ pnt F' (yrG adj n g seed N).1 n := by
      intro t
      induction t with
      | zero =>
        intro k F hk hF
        obtain rfl : k = N := by omega
        exact ⟨F, w_X8_liveYears_9 (z1 := true) (J1 := I) hl0 hl1 (fun h => absurd h (by omega)) (fun h => absurd h (by omega)) (fun _ => rfl) (r2 := fun h => absurd h (by omega)) (e1 := fun _ => rfl) (e2 := fun h => absurd h (by omega)) (v1 := fun h => absurd h (by omega)) (v2 := fun h => absurd h (by omega)) (v3 := fun h => absurd h (by omega)) (v4 := fun h => absurd h (by omega)), hF⟩
      | succ t ih =>
        intro k F hk hF
        have hst : yrG adj n g seed (k + 1) = yst adj n (yrG adj n g seed k) := rfl
        have hin := yrG_in (adj := adj) (n := n) (g := g) (seed := seed) k
        have ih := ih (k + 1)
        rw [hst] at ih
        generalize yrG adj n g seed k = p at *
        obtain ⟨g1, e, dn⟩ := p
        have hA1 : cAd (up1 I 146 F) T n adj := cAd_of hT hA (fun a h1 _ => up1_o I h1)
        have hT6 : (up1 I 146 F) T 6 = (n : Int) := hA1.1
        obtain ⟨F1, c1, c2⟩ := at_C (d := d) (I := up1 I 146 F) (S := S) (a0 := 145) (T := T) (n := n) (adj := adj) (g := g1) (how := drG e 3) (s := drG (stI e) (n : Int)) (c := drG (stI (stI e)) 4) (ly_X8_p hl0) hl1 hA1 (by rw [show (145 + 1) = 146 from rfl, up1_same]; exact hF)
        rw [show (145 + 1) = 146 from rfl, up1_up1] at c1
        obtain ⟨F', q1, q2⟩ := ih F1 (by omega) c2
        have e1 : (if (3 : Nat) ≤ 0 then (0 : Int) else (p_and (p_shr (p_add (p_mul e 1103515245) 12345) 16) 32767) % 3) = drG e 3 := if_neg (by decide)
        have e2 : (if ((up1 I 146 F) T 6) ≤ 0 then (0 : Int) else (p_and (p_shr (p_add (p_mul (p_add (p_mul e 1103515245) 12345) 1103515245) 12345) 16) 32767) % ((up1 I 146 F) T 6)) = drG (stI e) (n : Int) := by
          rw [hT6]; exact if_neg (by omega)
        have e3 : (if (4 : Nat) ≤ 0 then (0 : Int) else (p_and (p_shr (p_add (p_mul (p_add (p_mul (p_add (p_mul e 1103515245) 12345) 1103515245) 12345) 1103515245) 12345) 16) 32767) % 4) = drG (stI (stI e)) 4 := if_neg (by decide)
        have d1 := dr_nn e
        have d2 := dr_nn (stI e)
        have d3 := dr_nn (stI (stI e))
        refine ⟨F', w_X8_liveYears_9 (z1 := (ddS adj n g1 (drG e 3) (drG (stI e) (n : Int)) (drG (stI (stI e)) 4)).isSome) (J1 := up1 I 146 F1) hl0 hl1 (fun _ _ => by dsimp only; rw [e1, e2, e3]; exact c1) (fun _ _ => ?_) (fun h => absurd h (by clear d1 d2 d3 e1 e2 e3 q1 c1 ih; omega)) (r2 := fun _ h => absurd h (by rw [hT6]; clear d1 d2 d3 e1 e2 e3 q1 c1 ih; omega)) (e1 := fun h => absurd h (by clear d1 d2 d3 e1 e2 e3 q1 c1 ih; omega)) (e2 := fun _ h => absurd h (by rw [hT6]; clear d1 d2 d3 e1 e2 e3 q1 c1 ih; omega)) (v1 := fun _ _ _ => ⟨⟨d1.1, Int.le_trans d1.2 (by decide)⟩, by decide, by decide⟩) (v2 := fun _ _ h => ⟨⟨d2.1, Int.le_trans d2.2 (by decide)⟩, h, by rw [hT6]; have := hA.2.1; clear d1 d2 d3 e1 e2 e3 q1 c1 ih; omega⟩) (v3 := fun _ _ _ => ⟨⟨d3.1, Int.le_trans d3.2 (by decide)⟩, by decide, by decide⟩) (v4 := fun _ _ => by clear d1 d2 d3 e1 e2 e3 q1 c1 ih; omega), q2⟩
        have ez : (if ¬((ddS adj n g1 (drG e 3) (drG (stI e) (n : Int)) (drG (stI (stI e)) 4)).isSome = true) then (dn : Int) else dn + 1) = dn + (if (ddS adj n g1 (drG e 3) (drG (stI e) (n : Int)) (drG (stI (stI e)) 4)).isSome = true then 1 else 0) := by
          cases (ddS adj n g1 (drG e 3) (drG (stI e) (n : Int)) (drG (stI (stI e)) 4)).isSome with
          | true => rfl
          | false => exact (Int.add_zero dn).symm
        dsimp only
        rw [ez]
        have y1 : (yst adj n (g1, e, dn)).2.2 = dn + (if (ddS adj n g1 (drG e 3) (drG (stI e) (n : Int)) (drG (stI (stI e)) 4)).isSome = true then 1 else 0) := rfl
        have y2 : (yst adj n (g1, e, dn)).2.1 = p_add (p_mul (p_add (p_mul (p_add (p_mul e 1103515245) 12345) 1103515245) 12345) 1103515245) 12345 := by unfold yst; dsimp only; unfold stI; rfl
        rw [y1, y2, show ((k + 1 : Nat) : Int) = (k : Int) + 1 from rfl] at q1
        exact q1
    obtain ⟨F', q1, q2⟩ := lp N 0 (I 146) (by omega) hp
    rw [up1_self] at q1
    exact ⟨F', w_X8_liveYears_0 hl0 hl1 q1, q2⟩
end
end
