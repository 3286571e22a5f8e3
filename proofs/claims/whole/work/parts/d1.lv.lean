/-! ===== levels, round by round ===== -/
noncomputable section
/-- a round: colourings gone through, whether some got the round's level -/
def lvR (led : (Nat → Int) → Nat → Bool) (rd : Int) : Nat → (Nat → Int) → Nat → Int
  | 0, f => f
  | c + 1, f => if lvR led rd c f c = -1 ∧ led (lvR led rd c f) c = true then up1 (lvR led rd c f) c rd else lvR led rd c f
def lvC (led : (Nat → Int) → Nat → Bool) (rd : Int) : Nat → (Nat → Int) → Bool
  | 0, _ => false
  | c + 1, f => lvC led rd c f || decide (lvR led rd c f c = -1 ∧ led (lvR led rd c f) c = true)
def lvF (led : Int → (Nat → Int) → Nat → Bool) (n : Nat) : Nat → Int → (Nat → Int) → Nat → Int
  | 0, _, f => f
  | k + 1, rd, f => if lvC (led rd) rd n f = true then lvF led n k (rd + 1) (lvR (led rd) rd n f) else lvR (led rd) rd n f
/-- how many have no level -/
def umN (f : Nat → Int) : Nat → Nat
  | 0 => 0
  | k + 1 => umN f k + (if f k = -1 then 1 else 0)
theorem lvR_out {led : (Nat → Int) → Nat → Bool} {rd : Int} {f : Nat → Int} : ∀ {c i : Nat}, c ≤ i → lvR led rd c f i = f i
  | 0, _, _ => rfl
  | c + 1, i, h => by
    unfold lvR
    split
    · rw [up1_o _ (by omega)]; exact lvR_out (by omega)
    · exact lvR_out (by omega)
theorem lvR_keep {led : (Nat → Int) → Nat → Bool} {rd : Int} {f : Nat → Int} {i : Nat} (hi : f i ≠ -1) : ∀ c : Nat, lvR led rd c f i = f i
  | 0 => rfl
  | c + 1 => by
    unfold lvR
    split
    · rename_i h
      by_cases e : i = c
      · subst e; rw [lvR_keep hi i] at h; exact absurd h.1 hi
      · rw [up1_o _ e]; exact lvR_keep hi c
    · exact lvR_keep hi c
theorem umN_le {f g : Nat → Int} : ∀ {n : Nat}, (∀ i, i < n → f i ≠ -1 → g i ≠ -1) → umN g n ≤ umN f n
  | 0, _ => Nat.le_refl 0
  | n + 1, h => by
    have h1 := umN_le (n := n) (fun i hi => h i (by omega))
    have h2 := h n (by omega)
    unfold umN
    by_cases e : f n = -1
    · rw [if_pos e]; split <;> omega
    · rw [if_neg e, if_neg (h2 e)]; omega
theorem umN_lt {f g : Nat → Int} {j : Nat} : ∀ {n : Nat}, j < n → (∀ i, i < n → f i ≠ -1 → g i ≠ -1) → f j = -1 → g j ≠ -1 → umN g n < umN f n
  | 0, h, _, _, _ => absurd h (by omega)
  | n + 1, h, hk, h1, h2 => by
    by_cases e : j = n
    · subst e
      have := umN_le (f := f) (g := g) (n := j) (fun i hi => hk i (by omega))
      unfold umN
      rw [if_pos h1, if_neg h2]
      omega
    · have := umN_lt (n := n) (j := j) (by omega) (fun i hi => hk i (by omega)) h1 h2
      have h3 := hk n (by omega)
      unfold umN
      by_cases e2 : f n = -1
      · rw [if_pos e2]; split <;> omega
      · rw [if_neg e2, if_neg (h3 e2)]; omega
theorem lvC_um {led : (Nat → Int) → Nat → Bool} {rd : Int} {f : Nat → Int} (hrd : rd ≠ -1) : ∀ {c n : Nat}, c ≤ n → lvC led rd c f = true → umN (lvR led rd c f) n < umN f n
  | 0, _, _, h => by cases h
  | c + 1, n, hn, h => by
    have h : (lvC led rd c f || decide (lvR led rd c f c = -1 ∧ led (lvR led rd c f) c = true)) = true := h
    have hs : lvR led rd (c + 1) f = if lvR led rd c f c = -1 ∧ led (lvR led rd c f) c = true then up1 (lvR led rd c f) c rd else lvR led rd c f := rfl
    rw [hs]
    by_cases q : lvR led rd c f c = -1 ∧ led (lvR led rd c f) c = true
    · rw [if_pos q]
      refine umN_lt (j := c) (by omega) (fun i _ hi => ?_) (by rw [← lvR_out (led := led) (rd := rd) (f := f) (Nat.le_refl c)]; exact q.1) (by rw [up1_same]; exact hrd)
      by_cases e : i = c
      · rw [e, up1_same]; exact hrd
      · rw [up1_o _ e, lvR_keep hi c]; exact hi
    · rw [if_neg q]
      rw [decide_eq_false q, Bool.or_false] at h
      exact lvC_um hrd (by omega) h
theorem umN_in (f : Nat → Int) : ∀ n, umN f n ≤ n
  | 0 => Nat.le_refl 0
  | n + 1 => by
    have := umN_in f n
    unfold umN
    split <;> omega
/-! the reference's -/
/-- what may be switched is a good code again -/
def ldG (r A code : Int) : Prop := ∀ q way gs : Nat, q < 3 → (way : Int) < pwI 4 ((rnC r code (q : Int) + 1) / 2).toNat → fnB (way : Int) (rnC r code (q : Int)) = true → gs < 128 → p_and (gs : Int) (p_xor (hmO (fnG (way : Int) (rnC r code (q : Int))) (rnC r code (q : Int)).toNat) (-1)) = 0 → (0 ≤ lwT r code (q : Int) (rnA r code (q : Int)) (fnG (way : Int) (rnC r code (q : Int))) (rnC r code (q : Int)) (gs : Int) ∧ lwT r code (q : Int) (rnA r code (q : Int)) (fnG (way : Int) (rnC r code (q : Int))) (rnC r code (q : Int)) (gs : Int) < A) ∧ goodC r (lwT r code (q : Int) (rnA r code (q : Int)) (fnG (way : Int) (rnC r code (q : Int))) (rnC r code (q : Int)) (gs : Int)) = true
theorem ldB_congr {r A code p p' rd : Int} {lv lv' ix ix' : Nat → Int} (hG : ldG r A code) (hr : 1 ≤ r ∧ r ≤ 7) (h : ∀ T : Int, 0 ≤ T → T < A → goodC r T = true → lv ((96 * p) + ix T.toNat).toNat = lv' ((96 * p') + ix' T.toNat).toNat) : ldB r code lv ix p rd = ldB r code lv' ix' p' rd := by
  unfold ldB
  refine anyB_congr (fun q hq => ?_)
  unfold ldQ
  refine allB_congr (fun way hw => ?_)
  unfold ldW
  cases hf : fnB (way : Int) (rnC r code (q : Int)) with
  | false => rw [Bool.not_false, Bool.true_or, Bool.true_or]
  | true =>
    rw [Bool.not_true, Bool.false_or, Bool.false_or]
    unfold lwB
    refine anyB_congr (fun gs hgs => ?_)
    unfold lwP
    by_cases hin : p_and (gs : Int) (p_xor (hmO (fnG (way : Int) (rnC r code (q : Int))) (rnC r code (q : Int)).toNat) (-1)) = 0
    · have hpw := pw4 (k := ((rnC r code (q : Int) + 1) / 2).toNat) (by have := rnC_in (code := code) (q := (q : Int)) hr; omega)
      obtain ⟨h1, h2⟩ := hG q way gs hq (by omega) hf hgs hin
      rw [h _ h1.1 h1.2 h2]
    · rw [decide_eq_false hin, Bool.false_and, Bool.false_and]
section
variable {d : Nat} {I : Nat → Nat → Int} {S : PS} {p : Nat}
def ldL (r : Int) (cd : Nat → Int) (rd : Int) (f : Nat → Int) (c : Nat) : Bool := ldB r (cd c) f (ixG r) 0 rd
/-- arrays that rounds leave alone -/
def lvK (J X : Nat → Nat → Int) : Prop := X 172 = J 172 ∧ X 167 = J 167 ∧ X 168 = J 168 ∧ X 169 = J 169 ∧ X 170 = J 170
theorem lp_rnd {r N A : Nat} {A' : Int} {cd : Nat → Int} (hl0 : LyX12 S) (hp : p < 4) (hr : I 159 ((20 * (p : Int)) + 9).toNat = (r : Int)) (hr7 : 1 ≤ r ∧ r ≤ 7) (hN : N ≤ 95) (hA : A ≤ 16384) (hcn : cnG (r : Int) A = (N : Int)) (hG : ∀ c, c < N → ldG (r : Int) (A : Int) (cd c)) : ∀ (k : Nat) (rd : Int) (J : Nat → Nat → Int) (f : Nat → Int), umN f N < k → 1 ≤ rd → rd + (k : Int) ≤ 1000 → lpF p I J → (∀ i, i < A → J 172 i = ixG (r : Int) i) → (∀ i, i < N → J 168 (96 * p + i) = cd i) → (∀ i, i < N → J 171 (96 * p + i) = f i) → ∃ J', lpF p I J' ∧ lvK J J' ∧ (∀ i, i < N → J' 171 (96 * p + i) = lvF (ldL (r : Int) cd) N k rd f i) ∧ L_X12_laysPiece_215 d 156 (p : Int) (N : Int) A' 1 rd J S (J', S) := by
  intro k
  induction k with
  | zero => intro rd J f h; exact absurd h (by omega)
  | succ k ih =>
    intro rd J f hum hrd1 hrd2 hF hix hcd hlv
    have hFs : lvF (ldL (r : Int) cd) N (k + 1) rd f = if lvC (ldL (r : Int) cd rd) rd N f = true then lvF (ldL (r : Int) cd) N k (rd + 1) (lvR (ldL (r : Int) cd rd) rd N f) else lvR (ldL (r : Int) cd rd) rd N f := rfl
    obtain ⟨led, hled⟩ : ∃ led, led = ldL (r : Int) cd rd := ⟨_, rfl⟩
    rw [← hled] at hFs
    have loop : ∀ (t c : Nat) (X : Nat → Nat → Int), c + t = N → lpF p I X → lvK J X → (∀ i, i < N → X 171 (96 * p + i) = lvR led rd c f i) → ∃ J', lpF p I J' ∧ lvK J J' ∧ (∀ i, i < N → J' 171 (96 * p + i) = lvF (ldL (r : Int) cd) N (k + 1) rd f i) ∧ L_X12_laysPiece_226 d 156 (p : Int) (N : Int) A' (if lvC led rd c f = true then 1 else 0) rd (c : Int) X S (J', S) := by
      intro t
      induction t with
      | zero =>
        intro c X hc hX hK hl
        have hcN : c = N := by omega
        subst hcN
        rw [hFs]
        by_cases hch : lvC led rd c f = true
        · rw [if_pos hch]
          rw [if_pos hch]
          have hu := lvC_um (rd := rd) (by omega) (Nat.le_refl c) hch
          obtain ⟨J', g1, g2, g3, g4⟩ := ih (rd + 1) X (lvR led rd c f) (by omega) (by omega) (by omega) hX (fun i hi => by rw [hK.1]; exact hix i hi) (fun i hi => by rw [hK.2.2.1]; exact hcd i hi) hl
          exact ⟨J', g1, ⟨by rw [g2.1, hK.1], by rw [g2.2.1, hK.2.1], by rw [g2.2.2.1, hK.2.2.1], by rw [g2.2.2.2.1, hK.2.2.2.1], by rw [g2.2.2.2.2, hK.2.2.2.2]⟩, g3, w_X12_laysPiece_226 (J1 := X) (z1 := true) hl0 (fun _ => g4) (fun h => absurd h (by omega)) (fun h => absurd h (by omega)) (fun h => absurd h (by omega)) (fun h => absurd h (by omega))⟩
        · rw [if_neg hch]
          rw [if_neg hch]
          exact ⟨X, hX, hK, hl, w_X12_laysPiece_226 (J1 := X) (z1 := true) hl0 (fun _ => w_X12_laysPiece_215 hl0 (fun h => absurd rfl h)) (fun h => absurd h (by omega)) (fun h => absurd h (by omega)) (fun h => absurd h (by omega)) (fun h => absurd h (by omega))⟩
      | succ t iht =>
        intro c X hc hX hK hl
        have hci : ((96 * (p : Int)) + (c : Int)).toNat = 96 * p + c := by omega
        have xr : X 159 ((20 * (p : Int)) + 9).toNat = (r : Int) := by rw [hX _ _ (okA_p _)]; exact hr
        have xc : X 168 ((96 * (p : Int)) + (c : Int)).toNat = cd c := by rw [hci, hK.2.2.1]; exact hcd c (by omega)
        have xl : X 171 ((96 * (p : Int)) + (c : Int)).toNat = lvR led rd c f c := by rw [hci]; exact hl c (by omega)
        have hRs : lvR led rd (c + 1) f = if lvR led rd c f c = -1 ∧ led (lvR led rd c f) c = true then up1 (lvR led rd c f) c rd else lvR led rd c f := rfl
        have hCs : lvC led rd (c + 1) f = (lvC led rd c f || decide (lvR led rd c f c = -1 ∧ led (lvR led rd c f) c = true)) := rfl
        by_cases hl1 : lvR led rd c f c = -1
        · have hgood : ∀ T : Int, 0 ≤ T → T < (A : Int) → goodC (r : Int) T = true → X 172 T.toNat = ixG (r : Int) T.toNat ∧ 0 ≤ ixG (r : Int) T.toNat ∧ ixG (r : Int) T.toNat < N := fun T h1 h2 h3 => by
            refine ⟨by rw [hK.1]; exact hix T.toNat (by omega), ?_⟩
            have h4 : goodC (r : Int) ((T.toNat : Nat) : Int) = true := by rw [show ((T.toNat : Nat) : Int) = T by omega]; exact h3
            unfold ixG
            rw [if_pos h4]
            have := cnG_in (r : Int) T.toNat
            have := cnG_lt (r : Int) (show T.toNat < A by omega) h4
            omega
          have hv : ldV (r : Int) (X 168 ((96 * (p : Int)) + (c : Int)).toNat) (X 172) (p : Int) := by
            rw [xc]
            intro q way gs w1 w2 w3 w4 w5
            obtain ⟨h1, h2⟩ := hG c (by omega) q way gs w1 w2 w3 w4 w5
            have h3 := hgood _ h1.1 h1.2 h2
            rw [h3.1]
            exact ⟨⟨h1.1, by omega⟩, by omega, by omega⟩
          obtain ⟨J1, hc1, hf1⟩ := ld_M (d := d + 1) (I := X) (S := S) (p := (p : Int)) (c := (c : Int)) (round := rd) (r := r) hl0 (by omega) (by omega) xr hr7 hv
          have hBe : ldB (r : Int) (X 168 ((96 * (p : Int)) + (c : Int)).toNat) (X 171) (X 172) (p : Int) rd = led (lvR led rd c f) c := by
            have e1 : led (lvR led rd c f) c = ldB (r : Int) (cd c) (lvR led rd c f) (ixG (r : Int)) 0 rd := by
              have : ∀ (l : (Nat → Int) → Nat → Bool) (g : Nat → Int), l = ldL (r : Int) cd rd → l g c = ldB (r : Int) (cd c) g (ixG (r : Int)) 0 rd := fun l g hl => by rw [hl]; rfl
              exact this led _ hled
            rw [xc, e1]
            refine ldB_congr (hG c (by omega)) (by omega) (fun T h1 h2 h3 => ?_)
            obtain ⟨k1, k2, k3⟩ := hgood T h1 h2 h3
            rw [k1, show ((96 * (p : Int)) + ixG (r : Int) T.toNat).toNat = 96 * p + (ixG (r : Int) T.toNat).toNat by omega, show ((96 * (0 : Int)) + ixG (r : Int) T.toNat).toNat = (ixG (r : Int) T.toNat).toNat by omega, hl _ (by omega)]
          rw [hBe] at hc1
          have hF1 : lpF p I J1 := fun a i ho => by
            by_cases h156 : a = 156
            · subst h156
              rw [hf1.2 i (fun q => ho.2.2.2.2.2.1 ⟨rfl, q⟩)]; exact hX _ _ ho
            · rw [hf1.1 a h156 ho.2.2.2.1 ho.2.2.2.2.1 ho.2.2.1]; exact hX _ _ ho
          have hK1 : lvK J J1 := ⟨by rw [hf1.1 172 (by decide) (by decide) (by decide) (by decide), hK.1], by rw [hf1.1 167 (by decide) (by decide) (by decide) (by decide), hK.2.1], by rw [hf1.1 168 (by decide) (by decide) (by decide) (by decide), hK.2.2.1], by rw [hf1.1 169 (by decide) (by decide) (by decide) (by decide), hK.2.2.2.1], by rw [hf1.1 170 (by decide) (by decide) (by decide) (by decide), hK.2.2.2.2]⟩
          have l1 : J1 171 = X 171 := hf1.1 171 (by decide) (by decide) (by decide) (by decide)
          by_cases hb : led (lvR led rd c f) c = true
          · have hyes : lvR led rd c f c = -1 ∧ led (lvR led rd c f) c = true := ⟨hl1, hb⟩
            rw [if_pos hyes] at hRs
            rw [decide_eq_true hyes, Bool.or_true] at hCs
            rw [hb] at hc1
            obtain ⟨J', g1, g2, g3, g4⟩ := iht (c + 1) (up2 J1 171 (((96 * (p : Int)) + (c : Int)).toNat) rd) (by omega) (by rw [hci]; exact lpF_up hF1 (fun q => q.2.2.2.2.2.2.2 ⟨Or.inr (Or.inr (Or.inr rfl)), by omega, by omega⟩)) ⟨by rw [← hK1.1]; funext i; rw [up2_a _ (by decide)], by rw [← hK1.2.1]; funext i; rw [up2_a _ (by decide)], by rw [← hK1.2.2.1]; funext i; rw [up2_a _ (by decide)], by rw [← hK1.2.2.2.1]; funext i; rw [up2_a _ (by decide)], by rw [← hK1.2.2.2.2]; funext i; rw [up2_a _ (by decide)]⟩ (fun i hi => by
              rw [hci, hRs]
              by_cases e : i = c
              · rw [e, up2_same, up1_same]
              · rw [up2_k _ (by omega), up1_o _ e, l1]; exact hl i hi)
            rw [hCs, if_pos rfl] at g4
            exact ⟨J', g1, g2, g3, w_X12_laysPiece_226 (J1 := J1) (z1 := true) hl0 (fun h => absurd h (by omega)) (fun _ h => absurd (xl.trans hl1) h) (fun _ _ => hc1) (fun _ _ _ => g4) (fun _ _ h => absurd rfl h)⟩
          · have hno : ¬(lvR led rd c f c = -1 ∧ led (lvR led rd c f) c = true) := fun w => hb w.2
            rw [if_neg hno] at hRs
            rw [decide_eq_false hno, Bool.or_false] at hCs
            rw [Bool.eq_false_iff.mpr hb] at hc1
            obtain ⟨J', g1, g2, g3, g4⟩ := iht (c + 1) J1 (by omega) hF1 hK1 (fun i hi => by rw [hRs, l1]; exact hl i hi)
            rw [hCs] at g4
            exact ⟨J', g1, g2, g3, w_X12_laysPiece_226 (J1 := J1) (z1 := false) hl0 (fun h => absurd h (by omega)) (fun _ h => absurd (xl.trans hl1) h) (fun _ _ => hc1) (fun _ _ h => absurd h (by decide)) (fun _ _ _ => g4)⟩
        · have hno : ¬(lvR led rd c f c = -1 ∧ led (lvR led rd c f) c = true) := fun w => hl1 w.1
          rw [if_neg hno] at hRs
          rw [decide_eq_false hno, Bool.or_false] at hCs
          obtain ⟨J', g1, g2, g3, g4⟩ := iht (c + 1) X (by omega) hX hK (fun i hi => by rw [hRs]; exact hl i hi)
          rw [hCs] at g4
          exact ⟨J', g1, g2, g3, w_X12_laysPiece_226 (J1 := X) (z1 := true) hl0 (fun h => absurd h (by omega)) (fun _ _ => g4) (fun _ h => absurd (xl.symm.trans h) hl1) (fun _ h => absurd (xl.symm.trans h) hl1) (fun _ h => absurd (xl.symm.trans h) hl1)⟩
    obtain ⟨J', g1, g2, g3, g4⟩ := loop N 0 J (by omega) hF ⟨rfl, rfl, rfl, rfl, rfl⟩ hlv
    exact ⟨J', g1, g2, g3, w_X12_laysPiece_215 hl0 (fun _ => g4) (e1 := fun h => absurd h (by decide))⟩
/-- a piece is laid out -/
theorem lp_M {F V N A : Nat} {ed jn : Nat → Nat → Bool} {cd : Nat → Int} (hl0 : LyX12 S) (hp : p < 4) (hE : mEd I (p : Int) V ed jn) (hF : I 159 ((20 * (p : Int)) + 9).toNat = (F : Int)) (hF7 : 1 ≤ F ∧ F ≤ 7) (hV : ((F : Int) + 1) + I 159 ((20 * (p : Int)) + 1).toNat = (V : Int)) (hs : 0 ≤ I 159 ((20 * (p : Int)) + 1).toNat ∧ I 159 ((20 * (p : Int)) + 1).toNat ≤ 7) (hN : N ≤ 95) (hA : A ≤ 16384) (hA2 : p_shl 1 (2 * (F : Int)) = (A : Int)) (hcn : cnG (F : Int) A = (N : Int)) (hcd : ∀ i, i < N → ∃ m : Nat, m < A ∧ goodC (F : Int) (m : Int) = true ∧ cnG (F : Int) m = (i : Int) ∧ cd i = (m : Int)) (hG : ∀ c, c < N → ldG (F : Int) (A : Int) (cd c)) : ∃ J, Ca (d + 7) mX12_laysPiece [vR (some (22, 0, 156)), vI (p : Int)] (I, S) (.inl none) (J, S) ∧ lpF p I J ∧ J 167 p = (N : Int) ∧ (∀ i, i < N → J 168 (96 * p + i) = cd i) ∧ (∀ i, i < N → lpX I J p ed jn F V cd i) ∧ ∀ i, i < N → J 171 (96 * p + i) = lvF (ldL (F : Int) cd) N 200 1 (fun c => if lpE ed jn F V false (cd c) = true then 0 else -1) i := by
  obtain ⟨J1, a1, a2, a3, a4, a5⟩ := lp_codes (d := d) (I := I) (S := S) (p := p) (r := F) (A := A) hl0 hp hF hF7 hA (by omega) A 0 I (by omega) (fun _ _ _ => rfl) (fun i hi => absurd hi (by omega)) (fun i hi => absurd hi (by omega))
  rw [hcn] at a2 a5
  have hcd1 : ∀ i, i < N → J1 168 (96 * p + i) = cd i := fun i hi => by
    obtain ⟨m, m1, m2, m3, m4⟩ := hcd i hi
    have := a4 m m1 m2
    rw [m3, Int.toNat_natCast] at this
    rw [this, m4]
  obtain ⟨J2, b1, b2, b3, b4, b5, b6⟩ := lp_ext (d := d) (I := I) (S := S) (p := p) (A := (A : Int)) (cd := cd) hl0 hp hE hF hF7 hV hs (show N ≤ 96 by omega) N 0 J1 (by omega) a1 hcd1 (fun i hi => absurd hi (by omega))
  have hcd2 : ∀ i, i < N → J2 168 (96 * p + i) = cd i := fun i hi => by rw [b4]; exact hcd1 i hi
  have hum := umN_in (fun c => if lpE ed jn F V false (cd c) = true then 0 else -1) N
  obtain ⟨J3, c1, c2, c3, c4⟩ := lp_rnd (d := d) (I := I) (S := S) (p := p) (r := F) (N := N) (A := A) (A' := (A : Int)) (cd := cd) hl0 hp hF hF7 hN hA hcn hG 200 1 J2 (fun c => if lpE ed jn F V false (cd c) = true then 0 else -1) (by omega) (by decide) (by decide) b1 (fun i hi => by rw [b2]; exact a3 i hi) hcd2 (fun i hi => (b5 i hi).2)
  refine ⟨J3, w_X12_laysPiece_0 hl0 ?_ (v1 := by omega), c1, by rw [c2.2.1, b3]; exact a2, fun i hi => by rw [c2.2.2.1]; exact hcd2 i hi, fun i hi => ?_, c3⟩
  · rw [hF, hA2]
    exact a5 _ (b6 _ c4)
  · have := (b5 i hi).1
    unfold lpX at this ⊢
    rw [c2.2.2.2.1, c2.2.2.2.2]
    exact this
end
end
