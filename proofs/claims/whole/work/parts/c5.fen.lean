/-! ===== fences, the reference's ===== -/
noncomputable section
def dqI (x : Int) : Nat → Int
  | 0 => x
  | k + 1 => dqI x k / 4
theorem dqI_in {x : Int} (h : 0 ≤ x) : ∀ k, 0 ≤ dqI x k ∧ dqI x k ≤ x
  | 0 => ⟨h, Int.le_refl x⟩
  | k + 1 => by
    have := dqI_in h k
    show 0 ≤ dqI x k / 4 ∧ dqI x k / 4 ≤ x
    omega
def fnT (way : Int) : Nat → Int
  | 0 => 0
  | i + 1 => if dqI way i % 4 ≠ fnT way i then fnT way i else fnT way i + 1
theorem fnT_in (way : Int) : ∀ i : Nat, 0 ≤ fnT way i ∧ fnT way i ≤ i
  | 0 => ⟨Int.le_refl 0, Int.le_refl 0⟩
  | i + 1 => by
    have := fnT_in way i
    unfold fnT
    split <;> omega
/-- groups of runs of the pair of colour 0 -/
def fnE (way : Int) (k : Nat) : Int := dqI way (k / 2) % 4
/-- whether a way is told once -/
def fnB (way R : Int) : Bool := allB (fun i => decide (dqI way i % 4 ≤ fnT way i)) ((R + 1) / 2).toNat && decide (dqI way ((R + 1) / 2).toNat ≤ 0)
/-- the group of a run of the other pair, the first t of those ahead of it compared -/
def fnX (way R : Int) (o : Nat → Int) (i : Nat) : Nat → Int
  | 0 => 4 + (i : Int)
  | t + 1 => if apM (fnE way) R ((i : Int) - 1 - (t : Int)) (i : Int) = true then fnX way R o i t else o (i - 1 - t)
def fnO (way R : Int) : Nat → Nat → Int
  | 0 => fun _ => 0
  | i + 1 => up1 (fnO way R i) i (fnX way R (fnO way R i) i i)
def fnG (way R : Int) (k : Nat) : Int := if k % 2 = 0 then fnE way k else fnO way R (k / 2 + 1) (k / 2)
theorem fnO_stay (way R : Int) {i n : Nat} (h : i < n) : fnO way R n i = fnO way R (i + 1) i := by
  induction h with
  | refl => rfl
  | @step m h ih =>
    show up1 (fnO way R m) m _ i = _
    rw [up1_o _ (by have : i < m := h; omega), ih]
theorem apM_congr {g g' : Nat → Int} {R j i : Int} (hj : 0 ≤ j ∧ j ≤ i) (hi : 2 * i < R ∨ i < (R + 1) / 2) (h : ∀ k : Nat, (k : Int) < (R + 1) / 2 → g (2 * k) = g' (2 * k)) : apM g R j i = apM g' R j i := by
  unfold apM
  refine anyB_congr (fun a ha => ?_)
  unfold apP
  refine anyB_congr (fun b hb => ?_)
  unfold apQ
  have e1 := h (j + 1 + (a : Int)).toNat (by omega)
  have e2 := h b (by omega)
  rw [show (2 * (j + 1 + (a : Int))).toNat = 2 * (j + 1 + (a : Int)).toNat by omega, show (2 * (b : Int)).toNat = 2 * b by omega, e1, e2]
section
variable {d : Nat} {I : Nat → Nat → Int} {S : PS}
theorem fn_M {way : Int} (hl0 : LyX12 S) (hR : 0 ≤ (I 156 37) ∧ (I 156 37) ≤ 7) (hw : 0 ≤ way ∧ way ≤ 2147483647) : ∃ J, Ca (d + 2) mX12_isFence [vR (some (22, 0, 156)), vI way] (I, S) (.inl (some (vI (if fnB way (I 156 37) = true then 1 else 0)))) (J, S) ∧ (∀ a, a ≠ 176 → J a = I a) ∧ (fnB way (I 156 37) = true → ∀ k : Nat, (k : Int) < (I 156 37) → J 176 k = fnG way (I 156 37) k) := by
  obtain ⟨R, hR0⟩ : ∃ R, R = (I 156 37) := ⟨_, rfl⟩
  rw [← hR0] at hR ⊢
  -- runs of the other pair
  have odd : allB (fun i => decide (dqI way i % 4 ≤ fnT way i)) ((R + 1) / 2).toNat = true → dqI way ((R + 1) / 2).toNat ≤ 0 → ∀ (t i : Nat) (J : Nat → Nat → Int), i + t = (R / 2).toNat → (∀ a, a ≠ 176 → J a = I a) → (∀ k : Nat, (k : Int) < (R + 1) / 2 → J 176 (2 * k) = dqI way k % 4) → (∀ k : Nat, k < i → J 176 (2 * k + 1) = fnO way R (k + 1) k) → ∃ J', L_X12_isFence_73 d 156 way (dqI way ((R + 1) / 2).toNat) (fnT way ((R + 1) / 2).toNat) (i : Int) J S (if fnB way R = true then 1 else 0) (J', S) ∧ (∀ a, a ≠ 176 → J' a = I a) ∧ (fnB way R = true → ∀ k : Nat, (k : Int) < R → J' 176 k = fnG way R k) := by
    intro hok hle t
    have hB : fnB way R = true := by unfold fnB; rw [hok, decide_eq_true hle]; rfl
    induction t with
    | zero =>
      intro i J hi hf he ho
      have jR : J 156 37 = R := by rw [hf 156 (by decide)]; exact hR0.symm
      refine ⟨J, w_X12_isFence_73 hl0 (fun h => absurd h (by omega)) (fun _ => by rw [if_pos hB]), hf, fun _ k hk => ?_⟩
      unfold fnG
      by_cases hk2 : k % 2 = 0
      · rw [if_pos hk2]
        have := he (k / 2) (by omega)
        rw [show 2 * (k / 2) = k by omega] at this
        rw [this]; rfl
      · rw [if_neg hk2]
        have := ho (k / 2) (by omega)
        rw [show 2 * (k / 2) + 1 = k by omega] at this
        exact this
    | succ t ih =>
      intro i J hi hf he ho
      have jR : J 156 37 = R := by rw [hf 156 (by decide)]; exact hR0.symm
      have ap : ∀ (X : Nat → Nat → Int), (∀ k : Nat, (k : Int) < (R + 1) / 2 → X 176 (2 * k) = dqI way k % 4) → ∀ q : Nat, q < i → apM (X 176) R ((i : Int) - 1 - (q : Int)) (i : Int) = apM (fnE way) R ((i : Int) - 1 - (q : Int)) (i : Int) := fun X hX q hq => by
        refine apM_congr (by omega) (by omega) (fun k hk => ?_)
        rw [hX k hk]
        unfold fnE
        rw [show 2 * k / 2 = k by omega]
      have oOld : ∀ k : Nat, k < i → fnO way R i k = fnO way R (k + 1) k := fun k hk => fnO_stay way R hk
      have down : ∀ (s q : Nat) (X : Nat → Nat → Int), q + s = i → (∀ a, a ≠ 176 → X a = I a) → (∀ k : Nat, (k : Int) < (R + 1) / 2 → X 176 (2 * k) = dqI way k % 4) → (∀ k : Nat, k < i → X 176 (2 * k + 1) = fnO way R (k + 1) k) → X 176 (2 * i + 1) = fnX way R (fnO way R i) i q → ∃ J', L_X12_isFence_107 d 156 way (dqI way ((R + 1) / 2).toNat) (fnT way ((R + 1) / 2).toNat) (i : Int) ((i : Int) - 1 - (q : Int)) X S (if fnB way R = true then 1 else 0) (J', S) ∧ (∀ a, a ≠ 176 → J' a = I a) ∧ (fnB way R = true → ∀ k : Nat, (k : Int) < R → J' 176 k = fnG way R k) := by
        intro s
        induction s with
        | zero =>
          intro q X hq hfX heX hoX hx
          have xR : X 156 37 = R := by rw [hfX 156 (by decide)]; exact hR0.symm
          obtain ⟨J', hL, rest⟩ := ih (i + 1) X (by omega) hfX heX (fun k hk => by
            by_cases e : k = i
            · subst e
              show _ = up1 (fnO way R k) k (fnX way R (fnO way R k) k k) k
              rw [up1_same, hx, show q = k by omega]
            · exact hoX k (by omega))
          exact ⟨J', w_X12_isFence_107 hl0 (fun _ => hL) (fun h => absurd h (by omega)) (fun h => absurd h (by omega)), rest⟩
        | succ s ihs =>
          intro q X hq hfX heX hoX hx
          have xR : X 156 37 = R := by rw [hfX 156 (by decide)]; exact hR0.symm
          have hap := ap X heX q (by omega)
          have hu : fnX way R (fnO way R i) i (q + 1) = if apM (fnE way) R ((i : Int) - 1 - (q : Int)) (i : Int) = true then fnX way R (fnO way R i) i q else fnO way R i (i - 1 - q) := rfl
          have ej : (i : Int) - 1 - (q : Int) - 1 = (i : Int) - 1 - ((q + 1 : Nat) : Int) := by omega
          by_cases hb : apM (fnE way) R ((i : Int) - 1 - (q : Int)) (i : Int) = true
          · obtain ⟨J', hL, rest⟩ := ihs (q + 1) X (by omega) hfX heX hoX (by rw [hu, if_pos hb]; exact hx)
            rw [← ej] at hL
            exact ⟨J', w_X12_isFence_107 hl0 (fun h => absurd h (by omega)) (fun _ _ => hL) (fun _ h => absurd (by rw [xR, hap]; exact hb) h), rest⟩
          · have i1 : ((2 * (i : Int)) + 1).toNat = 2 * i + 1 := by omega
            have i2 : ((2 * ((i : Int) - 1 - (q : Int))) + 1).toNat = 2 * (i - 1 - q) + 1 := by omega
            obtain ⟨J', hL, rest⟩ := ihs (q + 1) (up2 X 176 (((2 * (i : Int)) + 1).toNat) (X 176 ((2 * ((i : Int) - 1 - (q : Int))) + 1).toNat)) (by omega) (fun a ha => by funext k; rw [up2_a _ ha, hfX a ha]) (fun k hk => by rw [i1, up2_k _ (by omega)]; exact heX k hk) (fun k hk => by rw [i1, up2_k _ (by omega)]; exact hoX k hk) (by
              rw [i1, i2, up2_same, hu, if_neg hb, hoX (i - 1 - q) (by omega), oOld (i - 1 - q) (by omega)])
            rw [← ej] at hL
            exact ⟨J', w_X12_isFence_107 hl0 (fun h => absurd h (by omega)) (fun _ h => absurd (by rw [xR, hap] at h; exact h) hb) (fun _ _ => hL), rest⟩
      have i1 : ((2 * (i : Int)) + 1).toNat = 2 * i + 1 := by omega
      obtain ⟨J', hL, rest⟩ := down i 0 (up2 J 176 (((2 * (i : Int)) + 1).toNat) (4 + (i : Int))) (by omega) (fun a ha => by funext k; rw [up2_a _ ha, hf a ha]) (fun k hk => by rw [i1, up2_k _ (by omega)]; exact he k hk) (fun k hk => by rw [i1, up2_k _ (by omega)]; exact ho k hk) (by rw [i1, up2_same]; rfl)
      rw [show (i : Int) - 1 - ((0 : Nat) : Int) = (i : Int) - 1 by omega] at hL
      exact ⟨J', w_X12_isFence_73 hl0 (fun _ => hL) (fun h => absurd h (by omega)) (e1 := fun h => absurd h (by omega)), rest⟩
  -- runs of the pair of colour 0
  have even : ∀ (t i : Nat) (J : Nat → Nat → Int), i + t = ((R + 1) / 2).toNat → allB (fun i => decide (dqI way i % 4 ≤ fnT way i)) i = true → (∀ a, a ≠ 176 → J a = I a) → (∀ k : Nat, k < i → J 176 (2 * k) = dqI way k % 4) → ∃ J', L_X12_isFence_7 d 156 way (dqI way i) (fnT way i) (i : Int) J S (if fnB way R = true then 1 else 0) (J', S) ∧ (∀ a, a ≠ 176 → J' a = I a) ∧ (fnB way R = true → ∀ k : Nat, (k : Int) < R → J' 176 k = fnG way R k) := by
    intro t
    induction t with
    | zero =>
      intro i J hi hok hf he
      have jR : J 156 37 = R := by rw [hf 156 (by decide)]; exact hR0.symm
      have hiF : i = ((R + 1) / 2).toNat := by omega
      subst hiF
      have hdq := dqI_in hw.1 ((R + 1) / 2).toNat
      by_cases hle : dqI way ((R + 1) / 2).toNat ≤ 0
      · obtain ⟨J', hL, rest⟩ := odd hok hle (R / 2).toNat 0 J (by omega) hf (fun k hk => he k (by omega)) (fun k hk => absurd hk (by omega))
        exact ⟨J', w_X12_isFence_7 hl0 (fun _ _ => hL) (fun h => absurd h (by omega)) (fun _ h => absurd h (by omega)) (e1 := fun _ h => absurd h (by omega)) (r2 := fun h => absurd h (by omega)) (e2 := fun h => absurd h (by omega)), rest⟩
      · have hB : fnB way R = false := by unfold fnB; rw [decide_eq_false hle, Bool.and_false]
        exact ⟨J, w_X12_isFence_7 hl0 (fun _ h => absurd h hle) (fun h => absurd h (by omega)) (fun _ _ => by rw [hB]; rfl) (e1 := fun _ _ => rfl) (r2 := fun h => absurd h (by omega)) (e2 := fun h => absurd h (by omega)), hf, fun h => by rw [hB] at h; cases h⟩
    | succ t ih =>
      intro i J hi hok hf he
      have jR : J 156 37 = R := by rw [hf 156 (by decide)]; exact hR0.symm
      have hdq := dqI_in hw.1 i
      have hT := fnT_in way i
      have i1 : (2 * (i : Int)).toNat = 2 * i := by omega
      by_cases hle : dqI way i % 4 ≤ fnT way i
      · obtain ⟨J', hL, rest⟩ := ih (i + 1) (up2 J 176 ((2 * (i : Int)).toNat) (dqI way i % 4)) (by omega) (allB_succ hok (decide_eq_true hle)) (fun a ha => by funext k; rw [up2_a _ ha, hf a ha]) (fun k hk => by
          rw [i1]
          by_cases e : k = i
          · rw [e, up2_same]
          · rw [up2_k _ (by omega)]; exact he k (by omega))
        exact ⟨J', w_X12_isFence_7 hl0 (fun h => absurd h (by omega)) (fun _ _ => hL) (fun h => absurd h (by omega)) (e1 := fun h => absurd h (by omega)) (r2 := fun _ h => absurd h (by omega)) (e2 := fun _ h => absurd h (by omega)), rest⟩
      · have hB : fnB way R = false := by unfold fnB; rw [allB_no (show i < ((R + 1) / 2).toNat by omega) (decide_eq_false hle), Bool.false_and]
        exact ⟨J, w_X12_isFence_7 hl0 (fun h => absurd h (by omega)) (fun _ h => absurd h hle) (fun h => absurd h (by omega)) (e1 := fun h => absurd h (by omega)) (r2 := fun _ _ => by rw [hB]; rfl) (e2 := fun _ _ => rfl), hf, fun h => by rw [hB] at h; cases h⟩
  obtain ⟨J', hL, rest⟩ := even ((R + 1) / 2).toNat 0 I (by omega) rfl (fun _ _ => rfl) (fun k hk => absurd hk (by omega))
  exact ⟨J', w_X12_isFence_0 hl0 hL, rest⟩
end
end
