/-! ===== whether a colouring is led below, the reference's ===== -/
noncomputable section
theorem hmO_congr {g g' : Nat → Int} : ∀ {n : Nat}, (∀ k, k < n → g k = g' k) → hmO g n = hmO g' n
  | 0, _ => rfl
  | n + 1, h => by
    unfold hmO
    rw [hmO_congr (n := n) (fun k hk => h k (by omega)), h n (by omega)]
theorem rnO_congr {g g' : Nat → Int} {x : Int} : ∀ {n : Nat}, (∀ k, k < n → g k = g' k) → rnO g x n = rnO g' x n
  | 0, _ => rfl
  | n + 1, h => by
    unfold rnO
    rw [rnO_congr (n := n) (fun k hk => h k (by omega)), h n (by omega)]
theorem swS_congr {r code q set : Int} {g g' : Nat → Int} : ∀ {n : Nat}, (∀ k, k < n → g k = g' k) → swS r code q g set n = swS r code q g' set n
  | 0, _ => rfl
  | n + 1, h => by
    unfold swS
    rw [swS_congr (n := n) (fun k hk => h k (by omega)), h n (by omega)]
theorem lwT_congr {r code q R gs : Int} {a a' g g' : Nat → Int} (ha : ∀ k, k < r.toNat → a k = a' k) (hg : ∀ k, k < R.toNat → g k = g' k) : lwT r code q a g R gs = lwT r code q a' g' R gs := by
  unfold lwT
  rw [rnO_congr hg, swS_congr ha]
theorem lwB_congr {r code q R p round : Int} {a a' g g' lv ix : Nat → Int} (ha : ∀ k, k < r.toNat → a k = a' k) (hg : ∀ k, k < R.toNat → g k = g' k) : lwB r code q a g R lv ix p round = lwB r code q a' g' R lv ix p round := by
  unfold lwB
  refine anyB_congr (fun gs _ => ?_)
  unfold lwP
  rw [lwT_congr ha hg, hmO_congr hg]
def ldW (r code q : Int) (lv ix : Nat → Int) (p round : Int) (way : Nat) : Bool := !fnB (way : Int) (rnC r code q) || lwB r code q (rnA r code q) (fnG (way : Int) (rnC r code q)) (rnC r code q) lv ix p round
def ldQ (r code : Int) (lv ix : Nat → Int) (p round : Int) (q : Nat) : Bool := allB (ldW r code (q : Int) lv ix p round) (pwI 4 ((rnC r code (q : Int) + 1) / 2).toNat).toNat
def ldB (r code : Int) (lv ix : Nat → Int) (p round : Int) : Bool := anyB (ldQ r code lv ix p round) 3
/-- all that may be switched is found again -/
def ldV (r code : Int) (ix : Nat → Int) (p : Int) : Prop := ∀ q way gs : Nat, q < 3 → (way : Int) < pwI 4 ((rnC r code (q : Int) + 1) / 2).toNat → fnB (way : Int) (rnC r code (q : Int)) = true → gs < 128 → p_and (gs : Int) (p_xor (hmO (fnG (way : Int) (rnC r code (q : Int))) (rnC r code (q : Int)).toNat) (-1)) = 0 → (0 ≤ lwT r code (q : Int) (rnA r code (q : Int)) (fnG (way : Int) (rnC r code (q : Int))) (rnC r code (q : Int)) (gs : Int) ∧ lwT r code (q : Int) (rnA r code (q : Int)) (fnG (way : Int) (rnC r code (q : Int))) (rnC r code (q : Int)) (gs : Int) < 16384) ∧ 0 ≤ (96 * p) + ix (lwT r code (q : Int) (rnA r code (q : Int)) (fnG (way : Int) (rnC r code (q : Int))) (rnC r code (q : Int)) (gs : Int)).toNat ∧ (96 * p) + ix (lwT r code (q : Int) (rnA r code (q : Int)) (fnG (way : Int) (rnC r code (q : Int))) (rnC r code (q : Int)) (gs : Int)).toNat < 384
def ldF (I J : Nat → Nat → Int) : Prop := (∀ a, a ≠ 156 → a ≠ 175 → a ≠ 176 → a ≠ 174 → J a = I a) ∧ ∀ k, k ≠ 37 → J 156 k = I 156 k
section
variable {d : Nat} {I : Nat → Nat → Int} {S : PS}
theorem ld_M {p c round : Int} {r : Nat} (hl0 : LyX12 S) (hp : 0 ≤ p ∧ p < 4) (hc : 0 ≤ c ∧ c < 96) (hr : I 159 ((20 * p) + 9).toNat = (r : Int)) (hr7 : 1 ≤ r ∧ r ≤ 7) (hv : ldV (r : Int) (I 168 ((96 * p) + c).toNat) (I 172) p) : ∃ J, Ca (d + 5) mX12_isLed [vR (some (22, 0, 156)), vI p, vI c, vI round] (I, S) (.inl (some (vI (if ldB (r : Int) (I 168 ((96 * p) + c).toNat) (I 171) (I 172) p round = true then 1 else 0)))) (J, S) ∧ ldF I J := by
  obtain ⟨code, hcode⟩ : ∃ code, code = I 168 ((96 * p) + c).toNat := ⟨_, rfl⟩
  rw [← hcode] at hv ⊢
  obtain ⟨B, hB⟩ : ∃ B, B = ldQ (r : Int) code (I 171) (I 172) p round := ⟨_, rfl⟩
  have hBB : ldB (r : Int) code (I 171) (I 172) p round = anyB B 3 := by rw [hB]; rfl
  rw [hBB]
  have outer : ∀ (t q : Nat) (J : Nat → Nat → Int), q + t = 3 → (∀ m, m < q → B m = false) → ldF I J → ∃ J', L_X12_isLed_16 d 156 p c round code (q : Int) J S (if anyB B 3 = true then 1 else 0) (J', S) ∧ ldF I J' := by
    intro t
    induction t with
    | zero =>
      intro q J hq hno hF
      have : anyB B 3 = false := by
        cases w : anyB B 3 with
        | false => rfl
        | true =>
          obtain ⟨m, hm, w2⟩ := anyB_iff.mp w
          rw [hno m (by omega)] at w2
          cases w2
      exact ⟨J, w_X12_isLed_16 hl0 (fun h => absurd h (by omega)) (fun _ => by rw [this]; rfl) (v2 := fun h => absurd h (by omega)) (v4 := fun h => absurd h (by omega)), hF⟩
    | succ t ih =>
      intro q J hq hno hF
      have jr : J 159 ((20 * p) + 9).toNat = (r : Int) := by rw [hF.1 159 (by decide) (by decide) (by decide) (by decide)]; exact hr
      obtain ⟨R, hR⟩ : ∃ R, R = rnC (r : Int) code (q : Int) := ⟨_, rfl⟩
      have hRin := rnC_in (r := (r : Int)) (code := code) (q := (q : Int)) (by omega)
      rw [← hR] at hRin
      obtain ⟨N, hN⟩ : ∃ N, N = (pwI 4 ((R + 1) / 2).toNat).toNat := ⟨_, rfl⟩
      have hpw := pw4 (k := ((R + 1) / 2).toNat) (by omega)
      obtain ⟨W, hW⟩ : ∃ W, W = ldW (r : Int) code (q : Int) (I 171) (I 172) p round := ⟨_, rfl⟩
      have hBq : B q = allB W N := by rw [hB, hN, hR, hW]; rfl
      -- the next pairing
      have next : ∀ X, ldF I X → B q = false → ∃ J', L_X12_isLed_16 d 156 p c round code ((q : Int) + 1) X S (if anyB B 3 = true then 1 else 0) (J', S) ∧ ldF I J' := fun X hX hb => ih (q + 1) X (by omega) (fun m hm => by
        by_cases e : m = q
        · rw [e]; exact hb
        · exact hno m (by omega)) hX
      have inner : ∀ (s w : Nat) (X : Nat → Nat → Int), w + s = N → (∀ m, m < w → W m = true) → ldF I X → X 156 37 = R → (∀ k, k < r → X 175 k = rnA (r : Int) code (q : Int) k) → ∃ J', L_X12_isLed_43 d 156 p c round code (q : Int) (N : Int) 1 (w : Int) X S (if anyB B 3 = true then 1 else 0) (J', S) ∧ ldF I J' := by
        intro s
        induction s with
        | zero =>
          intro w X hw hall hX x37 xrun
          have hb : B q = true := by rw [hBq]; exact allB_iff.mpr (fun m hm => hall m (by omega))
          exact ⟨X, w_X12_isLed_43 (J1 := X) (J2 := X) (z1 := true) (z2 := true) hl0 (fun _ h => absurd h (by decide)) (fun _ h => absurd h (by decide)) (fun h => absurd h (by omega)) (fun h => absurd h (by omega)) (fun h => absurd h (by omega)) (fun h => absurd h (by omega)) (fun _ _ => by rw [anyB_yes (show q < 3 by omega) hb]; rfl) (r2 := fun h => absurd h (by omega)), hX⟩
        | succ s ihs =>
          intro w X hw hall hX x37 xrun
          have hwN : (w : Int) < pwI 4 ((R + 1) / 2).toNat := by omega
          obtain ⟨J1, hc1, hf1, hg1⟩ := fn_M (d := d + 2) (I := X) (S := S) (way := (w : Int)) hl0 (by rw [x37]; omega) (by omega)
          rw [x37] at hc1 hg1
          have hF1 : ldF I J1 := ⟨fun a h1 h2 h3 h4 => by rw [hf1 a h3]; exact hX.1 a h1 h2 h3 h4, fun k hk => by rw [hf1 156 (by decide)]; exact hX.2 k hk⟩
          have j37 : J1 156 37 = R := by rw [hf1 156 (by decide)]; exact x37
          have jrun : ∀ k, k < r → J1 175 k = rnA (r : Int) code (q : Int) k := fun k hk => by rw [hf1 175 (by decide)]; exact xrun k hk
          have hWw : W w = (!fnB (w : Int) R || lwB (r : Int) code (q : Int) (rnA (r : Int) code (q : Int)) (fnG (w : Int) R) R (I 171) (I 172) p round) := by rw [hW, hR]; rfl
          by_cases hfb : fnB (w : Int) R = true
          · rw [hfb] at hc1
            have hg1 := hg1 hfb
            have jr1 : J1 159 ((20 * p) + 9).toNat = (r : Int) := by rw [hF1.1 159 (by decide) (by decide) (by decide) (by decide)]; exact hr
            have ca : ∀ k, k < (r : Int).toNat → J1 175 k = rnA (r : Int) code (q : Int) k := fun k hk => jrun k (by omega)
            have cg : ∀ k, k < R.toNat → J1 176 k = fnG (w : Int) R k := fun k hk => hg1 k (by omega)
            obtain ⟨J2, hc2, hf2⟩ := lw_M (d := d) (I := J1) (S := S) (p := p) (code := code) (q := (q : Int)) (round := round) hl0 hp (by rw [jr1]; omega) (by omega) (by rw [j37]; omega) (fun gs hgs hin => by
              rw [j37, hmO_congr cg] at hin
              rw [jr1, j37, lwT_congr ca cg, hF1.1 172 (by decide) (by decide) (by decide) (by decide)]
              rw [hR] at hwN hfb hin ⊢
              exact hv q w gs (by omega) hwN hfb hgs hin)
            rw [jr1, j37, lwB_congr ca cg, hF1.1 172 (by decide) (by decide) (by decide) (by decide), hF1.1 171 (by decide) (by decide) (by decide) (by decide)] at hc2
            have hF2 : ldF I J2 := ⟨fun a h1 h2 h3 h4 => by rw [hf2 a h4]; exact hF1.1 a h1 h2 h3 h4, fun k hk => by rw [hf2 156 (by decide)]; exact hF1.2 k hk⟩
            by_cases hlw : lwB (r : Int) code (q : Int) (rnA (r : Int) code (q : Int)) (fnG (w : Int) R) R (I 171) (I 172) p round = true
            · rw [hlw] at hc2
              obtain ⟨J', hL, rest⟩ := ihs (w + 1) J2 (by omega) (fun m hm => by
                by_cases e : m = w
                · rw [e, hWw, hlw, Bool.or_true]
                · exact hall m (by omega)) hF2 (by rw [hf2 156 (by decide)]; exact j37) (fun k hk => by rw [hf2 175 (by decide)]; exact jrun k hk)
              exact ⟨J', w_X12_isLed_43 (J1 := J1) (J2 := J2) (z1 := true) (z2 := true) hl0 (fun _ h => absurd h (by decide)) (fun _ h => absurd h (by decide)) (fun _ _ => hc1) (fun _ _ h => absurd rfl h) (fun _ _ _ => hc2) (fun _ _ _ => hL) (fun h => absurd h (by omega)) (r2 := fun _ h => absurd h (by decide)), rest⟩
            · rw [Bool.eq_false_iff.mpr hlw] at hc2
              have hb : B q = false := by rw [hBq]; exact allB_no (show w < N by omega) (by rw [hWw, hfb, Bool.eq_false_iff.mpr hlw]; rfl)
              obtain ⟨J', hL, rest⟩ := next J2 hF2 hb
              have hL2 : L_X12_isLed_43 d 156 p c round code (q : Int) (N : Int) 0 ((w : Int) + 1) J2 S (if anyB B 3 = true then 1 else 0) (J', S) := w_X12_isLed_43 (J1 := J2) (J2 := J2) (z1 := true) (z2 := true) hl0 (fun _ _ => hL) (fun _ _ _ => hL) (fun _ h => absurd rfl h) (fun _ h => absurd rfl h) (fun _ h => absurd rfl h) (fun _ h => absurd rfl h) (fun _ h => absurd rfl h) (r2 := fun _ _ h => absurd rfl h)
              exact ⟨J', w_X12_isLed_43 (J1 := J1) (J2 := J2) (z1 := true) (z2 := false) hl0 (fun _ h => absurd h (by decide)) (fun _ h => absurd h (by decide)) (fun _ _ => hc1) (fun _ _ h => absurd rfl h) (fun _ _ _ => hc2) (fun _ _ _ => hL2) (fun h => absurd h (by omega)) (r2 := fun _ h => absurd h (by decide)), rest⟩
          · rw [Bool.eq_false_iff.mpr hfb] at hc1
            obtain ⟨J', hL, rest⟩ := ihs (w + 1) J1 (by omega) (fun m hm => by
              by_cases e : m = w
              · rw [e, hWw, Bool.eq_false_iff.mpr hfb]; rfl
              · exact hall m (by omega)) hF1 j37 jrun
            exact ⟨J', w_X12_isLed_43 (J1 := J1) (J2 := J1) (z1 := false) (z2 := true) hl0 (fun _ h => absurd h (by decide)) (fun _ h => absurd h (by decide)) (fun _ _ => hc1) (fun _ _ _ => hL) (fun _ _ h => absurd h (by decide)) (fun _ _ h => absurd h (by decide)) (fun h => absurd h (by omega)) (r2 := fun _ h => absurd h (by decide)), rest⟩
      have hF1 : ldF I (lrI J (r : Int) code (q : Int)) := by
        unfold lrI
        exact ⟨fun a h1 h2 h3 h4 => by
          rw [up1_o _ h2]
          funext k
          rw [up2_a _ h1, hF.1 a h1 h2 h3 h4], fun k hk => by rw [up1_o _ (by decide), up2_k _ hk]; exact hF.2 k hk⟩
      have l37 : lrI J (r : Int) code (q : Int) 156 37 = R := by unfold lrI; rw [up1_o _ (by decide), up2_same, hR]
      obtain ⟨J', hL, rest⟩ := inner N 0 (lrI J (r : Int) code (q : Int)) (by omega) (fun m hm => absurd hm (by omega)) hF1 l37 (fun k hk => by unfold lrI; rw [up1_same, upTo_in (by omega)])
      refine ⟨J', w_X12_isLed_16 hl0 (fun _ => ?_) (fun h => absurd h (by omega)) (v2 := fun _ => by rw [jr]; omega) (v4 := fun _ => by rw [jr, l37]; omega), rest⟩
      rw [jr, l37, show pwI 4 ((R + 1) / 2).toNat = (N : Int) by omega]
      exact hL
  obtain ⟨J', hL, rest⟩ := outer 3 0 I rfl (fun m hm => absurd hm (by omega)) ⟨fun _ _ _ _ _ => rfl, fun _ _ => rfl⟩
  refine ⟨J', w_X12_isLed_0 hl0 ?_, rest⟩
  rw [← hcode]
  exact hL
def fcN (R : Int) : Int := smI (fun w => if fnB (w : Int) R = true then 1 else 0) (pwI 4 ((R + 1) / 2).toNat).toNat
theorem fc_M (hl0 : LyX12 S) (hR : 0 ≤ (I 156 37) ∧ (I 156 37) ≤ 7) : ∃ J, Ca (d + 3) mX12_fences [vR (some (22, 0, 156))] (I, S) (.inl (some (vI (fcN (I 156 37))))) (J, S) ∧ ∀ a, a ≠ 176 → J a = I a := by
  obtain ⟨R, hR0⟩ : ∃ R, R = (I 156 37) := ⟨_, rfl⟩
  rw [← hR0] at hR ⊢
  have hpw := pw4 (k := ((R + 1) / 2).toNat) (by omega)
  obtain ⟨N, hN⟩ : ∃ N, N = (pwI 4 ((R + 1) / 2).toNat).toNat := ⟨_, rfl⟩
  have hfc : fcN R = smI (fun w => if fnB (w : Int) R = true then 1 else 0) N := by unfold fcN; rw [← hN]
  have loop : ∀ (t w : Nat) (J : Nat → Nat → Int), w + t = N → (∀ a, a ≠ 176 → J a = I a) → ∃ J', L_X12_fences_9 d 156 (smI (fun w => if fnB (w : Int) R = true then 1 else 0) w) (N : Int) (w : Int) J S (fcN R) (J', S) ∧ ∀ a, a ≠ 176 → J' a = I a := by
    intro t
    induction t with
    | zero =>
      intro w J hw hf
      exact ⟨J, w_X12_fences_9 (J1 := J) (z1 := true) hl0 (fun h => absurd h (by omega)) (fun h => absurd h (by omega)) (fun _ => by rw [hfc, show w = N by omega]), hf⟩
    | succ t ih =>
      intro w J hw hf
      have j37 : J 156 37 = R := by rw [hf 156 (by decide)]; exact hR0.symm
      obtain ⟨J1, hc1, hf1, _⟩ := fn_M (d := d) (I := J) (S := S) (way := (w : Int)) hl0 (by rw [j37]; omega) (by omega)
      rw [j37] at hc1
      obtain ⟨J', hL, rest⟩ := ih (w + 1) J1 (by omega) (fun a ha => by rw [hf1 a ha, hf a ha])
      have hb := smI_le (g := fun w => if fnB (w : Int) R = true then 1 else 0) (m := 1) (n := w) (fun k _ => by split <;> omega)
      exact ⟨J', w_X12_fences_9 (J1 := J1) (z1 := fnB (w : Int) R) hl0 (fun _ => hc1) (fun _ => hL) (fun h => absurd h (by omega)), rest⟩
  obtain ⟨J', hL, rest⟩ := loop N 0 I (by omega) (fun _ _ => rfl)
  refine ⟨J', w_X12_fences_0 hl0 ?_, rest⟩
  rw [← hR0, show pwI 4 ((R + 1) / 2).toNat = (N : Int) by omega]
  exact hL
end
end
