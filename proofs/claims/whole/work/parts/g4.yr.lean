/-! ===== years of the reference ===== -/
noncomputable section
section
variable {d : Nat} {I : Nat → Nat → Int} {S : PS} {n : Nat} {adj : Nat → Nat → Bool} {g : Nat → Int}
def yrV (x3 dn : Int) (g : Nat → Int) (n : Nat) : Int := if x3 ≠ 0 then (if x3 ≠ 1 then clN4 g n else dn) else ctG g n
theorem ctG_cg {g g' : Nat → Int} {n : Nat} (h : ∀ i, i < n → g i = g' i) : ctG g n = ctG g' n := ctG_congr h
theorem clO_cg {g g' : Nat → Int} : ∀ {n : Nat}, (∀ i, i < n → g i = g' i) → clO g n = clO g' n
  | 0, _ => rfl
  | n + 1, h => by
    unfold clO
    rw [clO_cg (n := n) (fun i hi => h i (by omega)), h n (by omega)]
theorem yr_88 {x1 x2 x3 dn : Int} (hl0 : LyX12 S) (hn : I 156 15 = (n : Int)) (hn12 : n ≤ 12) (hg : ∀ i, i < n → gR I 18 i = g i) (hok : rOk g n) : L_X12_years_88 d 156 x1 x2 x3 dn 0 0 I S (yrV x3 dn g n) (I, S) := by
  have h := up_loopN (P := fun k => L_X12_years_88 d 156 x1 x2 x3 dn (clO g k) (k : Int) I S (yrV x3 dn g n) (I, S)) (n := n) ?_ ?_
  · exact h
  · refine w_X12_years_88 hl0 (fun h => absurd h (by omega)) (fun _ => ?_) (v1 := fun _ _ => by omega) (v3 := fun h => absurd h (by omega))
    unfold yrV
    rw [clO_cnt hok, cntP_ct, hn, Int.toNat_natCast, ctG_cg hg]
  · intro k hk ih
    refine w_X12_years_88 hl0 (fun _ => ?_) (fun h => absurd h (by omega)) (e1 := fun h => absurd h (by omega)) (v1 := fun h => absurd h (by omega)) (v3 := fun _ => by omega)
    have e : I 178 (18 + (k : Int)).toNat = g k := hg k hk
    rw [e]
    exact ih
def yqF (I J : Nat → Nat → Int) : Prop := (∀ a, a ≠ 178 → a ≠ 156 → J a = I a) ∧ (∀ i, i < 18 → J 178 i = I 178 i) ∧ ∀ k, k ≠ 58 → J 156 k = I 156 k
theorem yr_46 {x1 x3 : Int} {N : Nat} {g : Nat → Int} (hl0 : LyX12 S) (hA : mAd I n adj) (hN : N ≤ 100) (hok : rOk g n) : ∀ (t k : Nat) (X : Nat → Nat → Int), k + t = N → yqF I X → X 156 58 = (yrG adj n g x1 k).2.1 → (∀ i, i < n → gR X 18 i = (yrG adj n g x1 k).1 i) → 0 < n → ∃ J, L_X12_years_46 d 156 x1 (N : Int) x3 (yrG adj n g x1 k).2.2 (k : Int) X S (yrV x3 (yrG adj n g x1 N).2.2 (yrG adj n g x1 N).1 n) (J, S) ∧ yqF I J := by
  intro t
  induction t with
  | zero =>
    intro k X hk hF hs hg hn0
    obtain rfl : k = N := by omega
    have hn : X 156 15 = (n : Int) := by rw [hF.2.2 15 (by decide)]; exact hA.1
    exact ⟨X, w_X12_years_46 (z1 := true) (J1 := X) hl0 (fun _ => yr_88 hl0 hn hA.2.1 hg (yrG_ok hok k)) (fun h => absurd h (by omega)) (fun h => absurd h (by omega)) (fun h => absurd h (by omega)) (v1 := fun h => absurd h (by omega)) (v2 := fun h => absurd h (by omega)), hF⟩
  | succ t ih =>
    intro k X hk hF hs hg hn0
    have hn : X 156 15 = (n : Int) := by rw [hF.2.2 15 (by decide)]; exact hA.1
    have hAX : mAd X n adj := mAd_of hA (hF.2.2 15 (by decide)) (hF.1 161 (by decide) (by decide))
    have hst : yrG adj n g x1 (k + 1) = yst adj n (yrG adj n g x1 k) := rfl
    have hin := yrG_in (adj := adj) (n := n) (g := g) (seed := x1) k
    have hok1 := yrG_ok (adj := adj) (seed := x1) hok k
    have ih := ih (k + 1)
    rw [hst] at ih
    generalize yrG adj n g x1 k = p at *
    obtain ⟨g1, e, dn⟩ := p
    dsimp only at hin
    have hokX : rOk (gR X 18) n := fun i hi => by rw [hg i hi]; exact hok1 i hi
    obtain ⟨J, c1, c2, c3, c4⟩ := ha_M (d := d) hl0 hAX hn0 hokX
    have hs : X 156 58 = e := hs
    rw [hs] at c1 c3 c4
    have hcg := dd_congr (adj := adj) (how := drG e 3) (s := drG (stI e) (n : Int)) (c := drG (stI (stI e)) 4) hg
    rw [hcg.1] at c1
    have hFJ : yqF I J := ⟨fun a h1 h2 => by rw [c2.1 a h1 h2]; exact hF.1 a h1 h2, fun i hi => by rw [c2.2.1 i hi]; exact hF.2.1 i hi, fun k hk => by rw [c2.2.2 k hk]; exact hF.2.2 k hk⟩
    obtain ⟨J', q1, q2⟩ := ih J (by omega) hFJ (by unfold yst; dsimp only; exact c3) (fun i hi => by unfold yst; dsimp only; rw [c4 i hi]; exact hcg.2 i hi) hn0
    refine ⟨J', w_X12_years_46 (z1 := (ddS adj n g1 (drG e 3) (drG (stI e) (n : Int)) (drG (stI (stI e)) 4)).isSome) (J1 := J) hl0 (fun h => absurd h (by clear c1 c3 c4 hcg q1 ih; omega)) (fun _ h => absurd h (by clear c1 c3 c4 hcg q1 ih; omega)) (fun _ _ => c1) (fun _ _ => ?_) (v1 := fun _ _ => by clear c1 c3 c4 q1 ih; dsimp only; cases (ddS adj n g1 (drG e 3) (drG (stI e) (n : Int)) (drG (stI (stI e)) 4)).isSome <;> (constructor <;> (simp only [if_true, if_false, reduceCtorEq, Bool.false_eq_true]; omega))) (v2 := fun _ _ => by clear c1 c3 c4 hcg q1 ih; omega), q2⟩
    have y1 : (yst adj n (g1, e, dn)).2.2 = dn + (if (ddS adj n g1 (drG e 3) (drG (stI e) (n : Int)) (drG (stI (stI e)) 4)).isSome = true then 1 else 0) := rfl
    rw [y1, show ((k + 1 : Nat) : Int) = (k : Int) + 1 from rfl] at q1
    exact q1
/-- years of the reference -/
theorem yr_M {x1 x3 : Int} {N : Nat} (hl0 : LyX12 S) (hA : mAd I n adj) (hok : rOk (gR I 0) n) (hN : N ≤ 100) (hx : 0 ≤ x3 ∧ x3 ≤ 2) : ∃ J, Ca (d + 6) mX12_years [vR (some (22, 0, 156)), vI x1, vI (N : Int), vI x3] (I, S) (.inl (some (vI (yrV x3 (yrD adj n (gR I 0) x1 N).2 (yrD adj n (gR I 0) x1 N).1 n)))) (J, S) ∧ (∀ a, a ≠ 178 → a ≠ 156 → J a = I a) ∧ (∀ i, i < 18 → J 178 i = I 178 i) ∧ J 156 0 = 0 ∧ ∀ k, k ≠ 0 → k ≠ 58 → J 156 k = I 156 k := by
  obtain ⟨X, hX⟩ : ∃ X, X = up2 (trI (up2 I 156 0 0)) 156 58 x1 := ⟨_, rfl⟩
  have xa : ∀ a, a ≠ 178 → a ≠ 156 → X a = I a := fun a h1 h2 => by
    rw [hX]
    funext j
    rw [up2_a _ h2, trI_o _ h1, up2_a _ h2]
  have xi : ∀ i, i < 18 → X 178 i = I 178 i := fun i hi => by rw [hX, up2_a _ (by decide), trI_lo _ i hi, up2_a _ (by decide)]
  have xk : ∀ k, k ≠ 0 → k ≠ 58 → X 156 k = I 156 k := fun k h1 h2 => by rw [hX, up2_k _ h2, trI_o _ (by decide), up2_k _ h1]
  have x0 : X 156 0 = 0 := by rw [hX, up2_k _ (by decide), trI_o _ (by decide), up2_same]
  have xs : X 156 58 = x1 := by rw [hX, up2_same]
  have xg : ∀ i, i < n → gR X 18 i = gR I 0 i := fun i hi => by
    have := hA.2.1
    rw [gR_18, gR_0, hX, up2_a _ (by decide), trI_hi _ i (by omega), up2_a _ (by decide)]
  have hAX : mAd X n adj := mAd_of hA (xk 15 (by decide) (by decide)) (xa 161 (by decide) (by decide))
  have fin : ∀ J, yqF X J → (∀ a, a ≠ 178 → a ≠ 156 → J a = I a) ∧ (∀ i, i < 18 → J 178 i = I 178 i) ∧ J 156 0 = 0 ∧ ∀ k, k ≠ 0 → k ≠ 58 → J 156 k = I 156 k := fun J h => ⟨fun a h1 h2 => by rw [h.1 a h1 h2]; exact xa a h1 h2, fun i hi => by rw [h.2.1 i hi]; exact xi i hi, by rw [h.2.2 0 (by decide)]; exact x0, fun k h1 h2 => by rw [h.2.2 k h2]; exact xk k h1 h2⟩
  by_cases hn0 : n = 0
  · have hD : yrD adj n (gR I 0) x1 N = (gR I 0, 0) := if_pos hn0
    have hT6 : X 156 15 = 0 := by rw [hAX.1, hn0]; rfl
    rw [hD]
    refine ⟨X, w_X12_years_0 hl0 (fun _ _ => ?_) (fun _ h => absurd h (by omega)) (r2 := fun h => absurd h (by omega)) (e1 := fun _ h => absurd h (by omega)) (e2 := fun h => absurd h (by omega)), fin X ⟨fun _ _ _ => rfl, fun _ _ => rfl, fun _ _ => rfl⟩⟩
    rw [← hX]
    have h8 := yr_88 (d := d) (S := S) (x1 := x1) (x2 := (N : Int)) (x3 := x3) (dn := 0) hl0 hAX.1 hA.2.1 xg hok
    exact w_X12_years_46 (z1 := true) (J1 := X) hl0 (fun _ => h8) (fun _ _ => h8) (fun _ h => absurd h (by omega)) (fun _ h => absurd h (by omega)) (v1 := fun _ h => absurd h (by omega)) (v2 := fun _ h => absurd h (by omega))
  · have hD : yrD adj n (gR I 0) x1 N = ((yrG adj n (gR I 0) x1 N).1, (yrG adj n (gR I 0) x1 N).2.2) := if_neg hn0
    rw [hD]
    obtain ⟨J, q1, q2⟩ := yr_46 (d := d) (x1 := x1) (x3 := x3) (N := N) hl0 hAX hN hok N 0 X (by omega) ⟨fun _ _ _ => rfl, fun _ _ => rfl, fun _ _ => rfl⟩ xs xg (by omega)
    refine ⟨J, w_X12_years_0 hl0 (fun _ _ => ?_) (fun _ h => absurd h (by omega)) (r2 := fun h => absurd h (by omega)) (e1 := fun _ h => absurd h (by omega)) (e2 := fun h => absurd h (by omega)), fin J q2⟩
    rw [← hX]
    exact q1
end
end
