/-! ===== the class's search: freed by switches; the game ===== -/
noncomputable section
theorem xc_heap (I : Nat → Nat → Int) (A a b : Nat) (x : Int) : up2 (up2 I A a (p_or (p_and (I A a) (p_xor x (-1))) (p_and (I A b) x))) A b (p_or (p_and ((up2 I A a (p_or (p_and (I A a) (p_xor x (-1))) (p_and (I A b) x))) A b) (p_xor x (-1))) (p_and (I A a) x)) = up1 I A (xcF (I A) x a b) := by
  rw [up2_up1 I, up2_up1, up1_up1, up1_same]
  rfl
theorem frC_bt (f : Nat → Int) (m : Int) : ∀ k : Nat, frC f m k = btN (fun c => decide (p_and (f c) m = 0)) k
  | 0 => rfl
  | k + 1 => by
    unfold frC btN
    rw [frC_bt f m k]
    by_cases h : p_and (f k) m = 0
    · rw [if_neg (fun q => q h), if_pos (decide_eq_true h)]
    · rw [if_pos h, if_neg (fun q => h (of_decide_eq_true q))]
theorem btN_ne {P : Nat → Bool} {n : Nat} (hn : n ≤ 32) : btN P n ≠ 0 ↔ anyB P n = true := by
  constructor
  · intro h
    obtain ⟨i, hi, e⟩ := bt_ne_zero (btN_isI P n) h
    rw [btN_bt hn] at e
    obtain ⟨h1, h2⟩ := Bool.and_eq_true_iff.mp e
    exact anyB_yes (of_decide_eq_true h1) h2
  · intro h q
    obtain ⟨i, hi, e⟩ := anyB_iff.mp h
    have := btN_bt (P := P) hn i
    rw [q, bt_zero, decide_eq_true hi, e] at this
    cases this
theorem pnt_frC {f g : Nat → Int} {n s : Nat} {m : Int} {adj : Nat → Nat → Bool} (h : pnt f g n) (ha : ∀ i, i < n → adj s i = bt m i) : frC f m 4 = btN (fun c => frP adj g n s (c : Int)) 4 := by
  rw [frC_bt]
  refine btN_congr (fun c hc => ?_)
  have := pnt_free h (s := s) (adj := adj) hc ha
  by_cases q : p_and (f c) m = 0
  · rw [decide_eq_true q, this.mp q]
  · rw [decide_eq_false q]
    cases e : frP adj g n s (c : Int) with
    | false => rfl
    | true => exact absurd (this.mpr e) q
theorem fstB_iff {p : Nat → Bool} {n : Nat} : fstB p n ≠ -1 ↔ anyB p n = true := by
  constructor
  · intro h
    cases e : anyB p n with
    | true => rfl
    | false =>
      exfalso
      apply h
      refine fstB_none (fun j hj => ?_)
      cases q : p j with
      | false => rfl
      | true => rw [anyB_yes hj q] at e; cases e
  · intro h q
    obtain ⟨k, hk, e⟩ := anyB_iff.mp h
    have key : ∀ m, m ≤ n → fstB p m = -1 := by
      intro m hm
      cases w : decide (fstB p m = -1) with
      | true => exact of_decide_eq_true w
      | false =>
        have w := of_decide_eq_false w
        rw [fstB_stay rfl w n hm] at q
        exact absurd q w
    have := fstB_here (key k (by omega)) e hk
    omega
/-- whether so many switches set a colour free; the first switch of the first row of them -/
def fdS (adj : Nat → Nat → Bool) (n s : Nat) : Nat → (Nat → Int) → Bool
  | 0, g => anyB (fun c => frP adj g n s (c : Int)) 4
  | k + 1, g => anyB (fun m => canS g (m / 4) ((m % 4 : Nat) : Int) && fdS adj n s k (swG adj g n (m / 4) ((m % 4 : Nat) : Int))) (4 * n)
def fdP (adj : Nat → Nat → Bool) (n s k : Nat) (g : Nat → Int) (m : Nat) : Bool := canS g (m / 4) ((m % 4 : Nat) : Int) && fdS adj n s k (swG adj g n (m / 4) ((m % 4 : Nat) : Int))
def fdF (adj : Nat → Nat → Bool) (n s k : Nat) (g : Nat → Int) : Int := fstB (fdP adj n s k g) (4 * n)
def mvO (m : Int) : Int := 10 * (m / 4) + m % 4
/-- a spot may be painted so -/
def canP (adj : Nat → Nat → Bool) (g : Nat → Int) (n m : Nat) : Bool := decide (g (m / 4) = -1) && frP adj g n (m / 4) ((m % 4 : Nat) : Int)
/-- whether the first painter wins -/
def wnS (adj : Nat → Nat → Bool) (n : Nat) : Nat → (Nat → Int) → Bool → Bool
  | 0, _, _ => true
  | k + 1, g, true => anyB (fun m => canP adj g n m && wnS adj n k (up1 g (m / 4) ((m % 4 : Nat) : Int)) false) (4 * n)
  | k + 1, g, false => anyB (canP adj g n) (4 * n) && allB (fun m => !(canP adj g n m) || wnS adj n k (up1 g (m / 4) ((m % 4 : Nat) : Int)) true) (4 * n)
def wnF (adj : Nat → Nat → Bool) (n k : Nat) (g : Nat → Int) : Int := fstB (fun m => canP adj g n m && wnS adj n k (up1 g (m / 4) ((m % 4 : Nat) : Int)) false) (4 * n)
theorem dm4 (o c : Nat) (h : c < 4) : (4 * o + c) / 4 = o ∧ (4 * o + c) % 4 = c := by omega
section
variable {S : PS} {T n : Nat} {adj : Nat → Nat → Bool}
theorem fd_C {s : Nat} (hT : T = 34 ∨ T = 77) (hl0 : LyX8 S) (hl1 : LyX0 S T) (hsn : s < n) : ∀ (k d : Nat) (I : Nat → Nat → Int) (g : Nat → Int), k ≤ d → k ≤ 100 → cAd I T n adj → pnt (I 146) g n → ∃ J z, Ca (d + 2) mX8_isFreedBy [vR (some (18, 0, 144)), vR (some (11, 0, T)), vI (s : Int), vI (k : Int)] (I, S) (.inl (some (vI (if z = true then 1 else 0)))) (J, S) ∧ (∀ a, a ≠ 146 → a ≠ 144 → J a = I a) ∧ (∀ i, i ≠ 3 → J 144 i = I 144 i) ∧ z = fdS adj n s k g ∧ pnt (J 146) g n ∧ (z = false → J 144 3 = I 144 3) ∧ (∀ k', k = k' + 1 → z = true → J 144 3 = mvO (fdF adj n s k' g)) := by
  intro k
  induction k with
  | zero =>
    intro d I g hd h100 hA hp
    have h6 := hA.1
    have hn := hA.2.1
    refine ⟨I, fdS adj n s 0 g, w_X8_isFreedBy_0 hl0 hl1 (fun h => absurd h (by omega)) (fun _ => ?_), fun _ _ _ => rfl, fun _ _ => rfl, rfl, hp, fun _ => rfl, fun k' h => absurd h (by omega)⟩
    have e : frC (I 146) (I (T + 5) s) 4 = btN (fun c => frP adj g n s (c : Int)) 4 := pnt_frC hp (fun i hi => hA.2.2.1 s i hsn)
    refine ite_iff ?_
    show frC (I 146) (I (T + 5) s) 4 ≠ 0 ↔ _
    rw [e]
    exact btN_ne (by decide)
  | succ k ih =>
    intro d I g hd h100 hA hp
    have h6 := hA.1
    have hn := hA.2.1
    obtain ⟨e, rfl⟩ : ∃ e, d = e + 1 := ⟨d - 1, by omega⟩
    have ek : ((k + 1 : Nat) : Int) - 1 = (k : Int) := by omega
    obtain ⟨P, hP⟩ : ∃ P, P = fdP adj n s k g := ⟨_, rfl⟩
    have hS : fdS adj n s (k + 1) g = anyB P (4 * n) := by rw [hP]; rfl
    have hF : fdF adj n s k g = fstB P (4 * n) := by rw [hP]; rfl
    have loop : ∀ (r one : Nat) (J0 : Nat → Nat → Int), one + r = n → (∀ m, m < 4 * one → P m = false) → (∀ a, a ≠ 146 → a ≠ 144 → J0 a = I a) → J0 144 = I 144 → pnt (J0 146) g n → ∃ J z, L_X8_isFreedBy_25 (e + 1) 144 T (s : Int) ((k + 1 : Nat) : Int) (one : Int) J0 S (if z = true then 1 else 0) (J, S) ∧ (∀ a, a ≠ 146 → a ≠ 144 → J a = I a) ∧ (∀ i, i ≠ 3 → J 144 i = I 144 i) ∧ z = anyB P (4 * n) ∧ pnt (J 146) g n ∧ (z = false → J 144 3 = I 144 3) ∧ (z = true → J 144 3 = mvO (fstB P (4 * n))) := by
      intro r
      induction r with
      | zero =>
        intro one J0 hr hno hf h144 hq
        have h60 : J0 T 6 = (n : Int) := by rw [hf T (by omega) (by omega)]; exact h6
        refine ⟨J0, false, w_X8_isFreedBy_25 hl0 hl1 (fun h => absurd h (by omega)) (fun _ => rfl), hf, fun i _ => by rw [h144], ?_, hq, fun _ => by rw [h144], fun h => absurd h (by decide)⟩
        cases q : anyB P (4 * n) with
        | false => rfl
        | true =>
          obtain ⟨m, hm, w⟩ := anyB_iff.mp q
          rw [hno m (by omega)] at w
          cases w
      | succ r ihr =>
        intro one J0 hr hno hf h144 hq
        have inner : ∀ (q c : Nat) (J1 : Nat → Nat → Int), q + c = 4 → (∀ m, m < 4 * one + c → P m = false) → (∀ a, a ≠ 146 → a ≠ 144 → J1 a = I a) → J1 144 = I 144 → pnt (J1 146) g n → ∃ J z, L_X8_isFreedBy_37 (e + 1) 144 T (s : Int) ((k + 1 : Nat) : Int) (one : Int) (c : Int) J1 S (if z = true then 1 else 0) (J, S) ∧ (∀ a, a ≠ 146 → a ≠ 144 → J a = I a) ∧ (∀ i, i ≠ 3 → J 144 i = I 144 i) ∧ z = anyB P (4 * n) ∧ pnt (J 146) g n ∧ (z = false → J 144 3 = I 144 3) ∧ (z = true → J 144 3 = mvO (fstB P (4 * n))) := by
          intro q
          induction q with
          | zero =>
            intro c J1 hc hno1 hf1 h1441 hq1
            obtain ⟨J, z, hL, rest⟩ := ihr (one + 1) J1 (by omega) (fun m hm => hno1 m (by omega)) hf1 h1441 hq1
            exact ⟨J, z, w_X8_isFreedBy_37 (J1 := J1) (z1 := true) hl0 hl1 (fun _ => hL) (fun h => absurd h (by omega)) (fun h => absurd h (by omega)) (fun h => absurd h (by omega)) (fun h => absurd h (by omega)), rest⟩
          | succ q ihq =>
            intro c J1 hc hno1 hf1 h1441 hq1
            have hA1 : cAd J1 T n adj := cAd_of hT hA hf1
            have h61 := hA1.1
            have hone : one < n := by omega
            obtain ⟨x, hx⟩ : ∃ x, x = chC (J1 146) (J1 (T + 5)) (J1 T 6) (one : Int) (c : Int) := ⟨_, rfl⟩
            have hxe : x = if canS g one (c : Int) = true then chG adj g n one (c : Int) else 0 := by rw [hx, h61]; exact pnt_chC hq1 hone hA1.2.2.1
            have hcol : colO (J1 146) (one : Int) = g one := pnt_col hq1 hone
            have hPm : P (4 * one + c) = (canS g one (c : Int) && fdS adj n s k (swG adj g n one (c : Int))) := by
              rw [hP]; unfold fdP; rw [(dm4 one c (by omega)).1, (dm4 one c (by omega)).2]
            have hcr := colO_in (J1 146) (one : Int)
            by_cases hcs : canS g one (c : Int) = true
            · rw [if_pos hcs] at hxe
              obtain ⟨s1, s2, s3, s4⟩ := canS_iff.mp hcs
              have hgr := hq1.1.2 one hone
              have hx0 : x ≠ 0 := by rw [hxe]; exact chG_ne hn hone
              have hcolb : 0 ≤ colO (J1 146) (one : Int) ∧ colO (J1 146) (one : Int) < 4 := by rw [hcol]; omega
              have ea : (((colO (J1 146) (one : Int)).toNat : Nat) : Int) = g one := by omega
              have hab : (colO (J1 146) (one : Int)).toNat ≠ c := by omega
              have hp2 : pnt (xcF (J1 146) x (colO (J1 146) (one : Int)).toNat c) (swG adj g n one (c : Int)) n := by
                have := pnt_xc (x := x) hq1 (a := (colO (J1 146) (one : Int)).toNat) (b := c) (by omega) (by omega) hab
                rw [ea, hxe] at this
                rw [hxe]
                exact this
              obtain ⟨J, z, hcall, ho, h3, hz, hpJ, hzf, hzt⟩ := ih e (up1 J1 146 (xcF (J1 146) x (colO (J1 146) (one : Int)).toNat c)) (swG adj g n one (c : Int)) (by omega) (by omega) (cAd_of hT hA1 (fun a h1 _ => up1_o _ h1)) (by rw [up1_same]; exact hp2)
              rw [← xc_heap, hx] at hcall
              have hpb : pnt (xcF (J 146) x (colO (J1 146) (one : Int)).toNat c) g n := by
                have := pnt_xc (x := x) hpJ (a := (colO (J1 146) (one : Int)).toNat) (b := c) (by omega) (by omega) hab
                rw [ea] at this
                refine pnt_ext this (fun i _ => ?_)
                unfold swG
                rw [← hxe]
                exact xcG_xcG s2 i
              have hfJ : ∀ a, a ≠ 146 → a ≠ 144 → up1 J 146 (xcF (J 146) x (colO (J1 146) (one : Int)).toNat c) a = I a := fun a h1 h2 => by rw [up1_o _ h1, ho a h1 h2, up1_o _ h1, hf1 a h1 h2]
              have hJ3 : ∀ i, i ≠ 3 → J 144 i = I 144 i := fun i hi => by rw [h3 i hi, up1_o _ (by decide), h1441]
              cases z with
              | true =>
                have hPt : P (4 * one + c) = true := by rw [hPm, hcs, ← hz]; rfl
                have hmn : 4 * one + c < 4 * n := by omega
                refine ⟨up2 (up1 J 146 (xcF (J 146) x (colO (J1 146) (one : Int)).toNat c)) 144 3 ((10 * (one : Int)) + (c : Int)), true, w_X8_isFreedBy_37 (d := e + 1) (J1 := J) (z1 := true) hl0 hl1 (fun h => absurd h (by omega)) (fun _ h => absurd (hx.trans h) hx0) (fun _ _ => by rw [ek]; exact hcall) (fun _ _ q => absurd rfl q) (fun _ _ _ => rfl) (e1 := fun _ _ _ => ?_) (v3 := fun _ => by omega) (v4 := fun _ u i hu hb => ?_) (v6 := fun _ _ => hcolb), fun a h1 h2 => ?_, fun i hi => ?_, ?_, ?_, fun h => absurd h (by decide), fun _ => ?_⟩
                · rw [hx, ← xc_heap]; rfl
                · rw [h61]
                  have := hA1.2.2.2 u i (by omega) (by rw [hA1.2.2.1 u i (by omega)]; exact hb)
                  omega
                · rw [up2_up1, up1_o _ h2]; exact hfJ a h1 h2
                · rw [up2_k _ hi, up1_o _ (by decide)]; exact hJ3 i hi
                · exact (anyB_yes hmn hPt).symm
                · rw [up2_up1, up1_o _ (by decide), up1_same]; exact hpb
                · rw [up2_same, fstB_uniq hmn hPt hno1]
                  unfold mvO
                  omega
              | false =>
                have hPt : P (4 * one + c) = false := by rw [hPm, ← hz, Bool.and_false]
                obtain ⟨J2, z2, hL, rest⟩ := ihq (c + 1) (up1 J 146 (xcF (J 146) x (colO (J1 146) (one : Int)).toNat c)) (by omega) (fun m hm => by
                  by_cases em : m = 4 * one + c
                  · rw [em]; exact hPt
                  · exact hno1 m (by omega)) hfJ (by
                  funext i
                  by_cases hi : i = 3
                  · rw [hi, up1_o _ (by decide), hzf rfl, up1_o _ (by decide), h1441]
                  · rw [up1_o _ (by decide)]; exact hJ3 i hi) (by rw [up1_same]; exact hpb)
                rw [← xc_heap, hx] at hL
                refine ⟨J2, z2, w_X8_isFreedBy_37 (d := e + 1) (J1 := J) (z1 := false) hl0 hl1 (fun h => absurd h (by omega)) (fun _ h => absurd (hx.trans h) hx0) (fun _ _ => by rw [ek]; exact hcall) (fun _ _ _ => hL) (fun _ _ q => absurd q (by decide)) (v3 := fun _ => by omega) (v4 := fun _ u i hu hb => ?_) (v6 := fun _ _ => hcolb), rest⟩
                rw [h61]
                have := hA1.2.2.2 u i (by omega) (by rw [hA1.2.2.1 u i (by omega)]; exact hb)
                omega
            · rw [if_neg hcs] at hxe
              have hPt : P (4 * one + c) = false := by rw [hPm, Bool.eq_false_iff.mpr hcs, Bool.false_and]
              obtain ⟨J2, z2, hL, rest⟩ := ihq (c + 1) J1 (by omega) (fun m hm => by
                by_cases em : m = 4 * one + c
                · rw [em]; exact hPt
                · exact hno1 m (by omega)) hf1 h1441 hq1
              refine ⟨J2, z2, w_X8_isFreedBy_37 (d := e + 1) (J1 := J1) (z1 := false) hl0 hl1 (fun h => absurd h (by omega)) (fun _ _ => hL) (fun _ h => absurd (hx.symm.trans hxe) h) (fun _ h => absurd (hx.symm.trans hxe) h) (fun _ h => absurd (hx.symm.trans hxe) h) (e1 := fun _ h => absurd (hx.symm.trans hxe) h) (v3 := fun _ => by omega) (v4 := fun _ u i hu hb => ?_) (v6 := fun _ h => absurd (hx.symm.trans hxe) h), rest⟩
              rw [h61]
              have := hA1.2.2.2 u i (by omega) (by rw [hA1.2.2.1 u i (by omega)]; exact hb)
              omega
        have h60 : J0 T 6 = (n : Int) := by rw [hf T (by omega) (by omega)]; exact h6
        obtain ⟨J, z, hL, rest⟩ := inner 4 0 J0 rfl (fun m hm => hno m (by omega)) hf h144 hq
        exact ⟨J, z, w_X8_isFreedBy_25 hl0 hl1 (fun _ => hL) (fun h => absurd h (by omega)), rest⟩
    obtain ⟨J, z, hL, r1, r2, r3, r4, r5, r6⟩ := loop n 0 I (by omega) (fun m hm => absurd hm (by omega)) (fun _ _ _ => rfl) rfl hp
    refine ⟨J, z, w_X8_isFreedBy_0 hl0 hl1 (fun _ => hL) (fun h => absurd h (by omega)), r1, r2, by rw [hS]; exact r3, r4, r5, fun k' h q => ?_⟩
    have : k' = k := by omega
    rw [this, hF]
    exact r6 q
theorem wn_C (hT : T = 34 ∨ T = 77) (hl0 : LyX8 S) (hl1 : LyX0 S T) : ∀ (k mv d : Nat) (I : Nat → Nat → Int) (g : Nat → Int), k ≤ d → k + mv ≤ 100 → cAd I T n adj → pnt (I 146) g n → ∃ J, Ca (d + 2) mX8_isWonByFirst [vR (some (18, 0, 144)), vR (some (11, 0, T)), vI (mv : Int), vI (k : Int)] (I, S) (.inl (some (vI (if wnS adj n k g (decide (mv % 2 = 0)) = true then 1 else 0)))) (J, S) ∧ (∀ a, a ≠ 146 → a ≠ 144 → J a = I a) ∧ (∀ i, i ≠ 3 → J 144 i = I 144 i) ∧ pnt (J 146) g n ∧ (mv ≠ 0 → J 144 3 = I 144 3) ∧ (∀ k', k = k' + 1 → mv = 0 → J 144 3 = if wnS adj n k g true = true then mvO (wnF adj n k' g) else I 144 3) := by
  intro k
  induction k with
  | zero =>
    intro mv d I g hd h100 hA hp
    exact ⟨I, w_X8_isWonByFirst_0 hl0 hl1 (fun h => absurd h (by omega)) (fun _ => rfl), fun _ _ _ => rfl, fun _ _ => rfl, hp, fun _ => rfl, fun k' h => absurd h (by omega)⟩
  | succ k ih =>
    intro mv d I g hd h100 hA hp
    have h6 := hA.1
    have hn := hA.2.1
    obtain ⟨e, rfl⟩ : ∃ e, d = e + 1 := ⟨d - 1, by omega⟩
    have ek : ((k + 1 : Nat) : Int) - 1 = (k : Int) := by omega
    obtain ⟨t, ht⟩ : ∃ t, t = decide (mv % 2 = 0) := ⟨_, rfl⟩
    have ht2 : decide ((mv + 1) % 2 = 0) = !t := by
      rw [ht]
      by_cases q : mv % 2 = 0
      · rw [decide_eq_true q, decide_eq_false (by omega)]; rfl
      · rw [decide_eq_false q, decide_eq_true (by omega)]; rfl
    have ht3 : (if (mv : Int) % 2 = 0 then (1 : Int) else 0) = if t = true then 1 else 0 := by
      rw [ht]
      refine ite_iff ?_
      rw [decide_eq_true_iff]
      omega
    obtain ⟨W, hW⟩ : ∃ W : Nat → Bool, W = fun m => wnS adj n k (up1 g (m / 4) ((m % 4 : Nat) : Int)) (!t) := ⟨_, rfl⟩
    obtain ⟨C, hC⟩ : ∃ C, C = canP adj g n := ⟨_, rfl⟩
    obtain ⟨R, hR⟩ : ∃ R, R = wnS adj n (k + 1) g t := ⟨_, rfl⟩
    have yes : ∀ m, m < 4 * n → C m = true → W m = t → R = t := by
      intro m hm h1 h2
      rw [hR]
      cases t with
      | true =>
        refine anyB_yes hm ?_
        show (canP adj g n m && wnS adj n k (up1 g (m / 4) ((m % 4 : Nat) : Int)) false) = true
        rw [← hC, h1]
        rw [hW] at h2
        exact h2
      | false =>
        show (anyB (canP adj g n) (4 * n) && allB (fun m => !(canP adj g n m) || wnS adj n k (up1 g (m / 4) ((m % 4 : Nat) : Int)) true) (4 * n)) = false
        rw [allB_no (p := fun m => !(canP adj g n m) || wnS adj n k (up1 g (m / 4) ((m % 4 : Nat) : Int)) true) hm, Bool.and_false]
        show (!(canP adj g n m) || wnS adj n k (up1 g (m / 4) ((m % 4 : Nat) : Int)) true) = false
        rw [← hC, h1]
        rw [hW] at h2
        exact h2
    have noo : (∀ m, m < 4 * n → C m = true → W m ≠ t) → R = (anyB C (4 * n) && !t) := by
      intro h
      rw [hR]
      cases t with
      | true =>
        rw [Bool.not_true, Bool.and_false]
        cases q : wnS adj n (k + 1) g true with
        | false => rfl
        | true =>
          obtain ⟨m, hm, w⟩ := anyB_iff.mp q
          obtain ⟨w1, w2⟩ := Bool.and_eq_true_iff.mp w
          exact absurd (by rw [hW]; exact w2) (h m hm (by rw [hC]; exact w1))
      | false =>
        rw [Bool.not_false, Bool.and_true]
        show (anyB (canP adj g n) (4 * n) && allB (fun m => !(canP adj g n m) || wnS adj n k (up1 g (m / 4) ((m % 4 : Nat) : Int)) true) (4 * n)) = _
        rw [allB_iff.mpr (fun m hm => ?_), Bool.and_true, hC]
        cases q : canP adj g n m with
        | false => rfl
        | true =>
          have := h m hm (by rw [hC]; exact q)
          rw [hW] at this
          cases w : wnS adj n k (up1 g (m / 4) ((m % 4 : Nat) : Int)) true with
          | true => rfl
          | false => exact absurd w this
    have fin : ∀ J : Nat → Nat → Int, (R = t → t = true → mv = 0 → J 144 3 = mvO (wnF adj n k g)) → ((R = t → t = true → mv ≠ 0) → J 144 3 = I 144 3) → (mv ≠ 0 → J 144 3 = I 144 3) ∧ (∀ k', k + 1 = k' + 1 → mv = 0 → J 144 3 = if wnS adj n (k + 1) g true = true then mvO (wnF adj n k' g) else I 144 3) := by
      intro J h1 h2
      refine ⟨fun h => h2 (fun _ _ => h), fun k' hk h0 => ?_⟩
      have hk : k' = k := by omega
      have htt : t = true := by rw [ht, h0]; rfl
      rw [hk]
      rw [htt] at hR
      by_cases q : wnS adj n (k + 1) g true = true
      · rw [if_pos q]; exact h1 (by rw [hR, htt]; exact q) htt h0
      · rw [if_neg q]; exact h2 (fun w _ => absurd (by rw [← hR, w, htt]) q)
    have loop : ∀ (r one : Nat) (cg : Int) (J0 : Nat → Nat → Int), one + r = n → (cg = if anyB C (4 * one) = true then 1 else 0) → (∀ m, m < 4 * one → C m = true → W m ≠ t) → (∀ a, a ≠ 146 → a ≠ 144 → J0 a = I a) → J0 144 = I 144 → pnt (J0 146) g n → ∃ J, L_X8_isWonByFirst_25 (e + 1) 144 T (mv : Int) ((k + 1 : Nat) : Int) (if t = true then 1 else 0) cg (one : Int) J0 S (if R = true then 1 else 0) (J, S) ∧ (∀ a, a ≠ 146 → a ≠ 144 → J a = I a) ∧ (∀ i, i ≠ 3 → J 144 i = I 144 i) ∧ pnt (J 146) g n ∧ (R = t → t = true → mv = 0 → J 144 3 = mvO (wnF adj n k g)) ∧ ((R = t → t = true → mv ≠ 0) → J 144 3 = I 144 3) := by
      intro r
      induction r with
      | zero =>
        intro one cg J0 hr hcg hno hf h144 hq
        have h60 : J0 T 6 = (n : Int) := by rw [hf T (by omega) (by omega)]; exact h6
        have hRe := noo (fun m hm => hno m (by omega))
        refine ⟨J0, w_X8_isWonByFirst_25 hl0 hl1 (fun h => absurd h (by omega)) (fun _ => ?_), hf, fun i _ => by rw [h144], hq, fun h1 h2 => ?_, fun _ => by rw [h144]⟩
        · rw [hRe, hcg, show one = n by omega]
          refine ite_iff ?_
          cases t with
          | true => rw [Bool.not_true, Bool.and_false, if_pos rfl]; exact ⟨fun q => absurd q.2 (by decide), fun q => by cases q⟩
          | false =>
            rw [Bool.not_false, Bool.and_true, if_neg (show ¬(false = true) by decide)]
            exact ⟨fun q => b2t q.1, fun q => ⟨by rw [if_pos q]; decide, rfl⟩⟩
        · rw [h1, h2, Bool.not_true, Bool.and_false] at hRe
          cases hRe
      | succ r ihr =>
        intro one cg J0 hr hcg hno hf h144 hq
        have inner : ∀ (q c : Nat) (cg : Int) (J1 : Nat → Nat → Int), q + c = 4 → (cg = if anyB C (4 * one + c) = true then 1 else 0) → (∀ m, m < 4 * one + c → C m = true → W m ≠ t) → (∀ a, a ≠ 146 → a ≠ 144 → J1 a = I a) → J1 144 = I 144 → pnt (J1 146) g n → ∃ J, L_X8_isWonByFirst_37 (e + 1) 144 T (mv : Int) ((k + 1 : Nat) : Int) (if t = true then 1 else 0) cg (one : Int) (c : Int) J1 S (if R = true then 1 else 0) (J, S) ∧ (∀ a, a ≠ 146 → a ≠ 144 → J a = I a) ∧ (∀ i, i ≠ 3 → J 144 i = I 144 i) ∧ pnt (J 146) g n ∧ (R = t → t = true → mv = 0 → J 144 3 = mvO (wnF adj n k g)) ∧ ((R = t → t = true → mv ≠ 0) → J 144 3 = I 144 3) := by
          intro q
          induction q with
          | zero =>
            intro c cg J1 hc hcg1 hno1 hf1 h1441 hq1
            obtain ⟨J, hL, rest⟩ := ihr (one + 1) cg J1 (by omega) (by rw [hcg1, show 4 * one + c = 4 * (one + 1) by omega]) (fun m hm => hno1 m (by omega)) hf1 h1441 hq1
            exact ⟨J, w_X8_isWonByFirst_37 (J1 := J1) (z1 := true) hl0 hl1 (fun _ => hL) (fun h => absurd h (by omega)) (fun h => absurd h (by omega)) (fun h => absurd h (by omega)) (fun h => absurd h (by omega)), rest⟩
          | succ q ihq =>
            intro c cg J1 hc hcg1 hno1 hf1 h1441 hq1
            have hA1 : cAd J1 T n adj := cAd_of hT hA hf1
            have hone : one < n := by omega
            have hany := pnt_any0 hq1 hone
            have hfree := pnt_free hq1 (c := c) (s := one) (m := J1 (T + 5) one) (adj := adj) (by omega) (fun i _ => hA1.2.2.1 one i hone)
            have hmn : 4 * one + c < 4 * n := by omega
            have hCm : C (4 * one + c) = (decide (g one = -1) && frP adj g n one (c : Int)) := by rw [hC]; unfold canP; rw [(dm4 one c (by omega)).1, (dm4 one c (by omega)).2]
            have hany1 : anyB C (4 * one + (c + 1)) = (anyB C (4 * one + c) || C (4 * one + c)) := rfl
            by_cases hcm : C (4 * one + c) = true
            · obtain ⟨w1, w2⟩ := Bool.and_eq_true_iff.mp (hCm.symm.trans hcm)
              have hg := of_decide_eq_true w1
              obtain ⟨J, hcall, ho, h3, hpJ, hk1, _⟩ := ih (mv + 1) e (up1 J1 146 (up1 (J1 146) c (p_or (J1 146 c) (p_shl 1 (one : Int))))) (up1 g one (c : Int)) (by omega) (by omega) (cAd_of hT hA1 (fun a h1 _ => up1_o _ h1)) (by rw [up1_same]; exact pnt_put hq1 hone (by omega) hg)
              have hk1 := hk1 (by omega)
              rw [← up2_up1, ht2] at hcall
              have hWm : W (4 * one + c) = wnS adj n k (up1 g one (c : Int)) (!t) := by rw [hW]; show wnS adj n k (up1 g ((4 * one + c) / 4) (((4 * one + c) % 4 : Nat) : Int)) (!t) = _; rw [(dm4 one c (by omega)).1, (dm4 one c (by omega)).2]
              rw [← hWm] at hcall
              have hpb : pnt (up1 (J 146) c (p_and (J 146 c) (p_xor (p_shl 1 (one : Int)) (-1)))) g n := pnt_ext (pnt_take (c := c) (s := one) hpJ hone (by omega) (up1_same _ _ _)) (fun i _ => up1_back hg i)
              have hfJ : ∀ a, a ≠ 146 → a ≠ 144 → up1 J 146 (up1 (J 146) c (p_and (J 146 c) (p_xor (p_shl 1 (one : Int)) (-1)))) a = I a := fun a h1 h2 => by rw [up1_o _ h1, ho a h1 h2, up1_o _ h1, hf1 a h1 h2]
              have hJ3 : ∀ i, J 144 i = I 144 i := fun i => by
                by_cases hi : i = 3
                · rw [hi, hk1, up1_o _ (by decide), h1441]
                · rw [h3 i hi, up1_o _ (by decide), h1441]
              have hand : ((0 ≤ (c : Int)) ∧ ((c : Int) < 4)) ∧ ((p_and (p_shr (p_or (p_or (p_or (J1 146 0) (J1 146 1)) (J1 146 2)) (J1 146 3)) (one : Int)) 1 = 0) ∧ (p_and (J1 146 c) (J1 (T + 5) one) = 0)) := ⟨by omega, hany.mpr hg, hfree.mpr w2⟩
              by_cases hw : W (4 * one + c) = t
              · have hRt := yes _ hmn hcm hw
                refine ⟨up2 (up1 J 146 (up1 (J 146) c (p_and (J 146 c) (p_xor (p_shl 1 (one : Int)) (-1))))) 144 3 (if (mv : Int) ≠ 0 then I 144 3 else (10 * (one : Int)) + (c : Int)), w_X8_isWonByFirst_37 (d := e + 1) (J1 := J) (z1 := W (4 * one + c)) hl0 hl1 (fun h => absurd h (by omega)) (fun _ h => absurd hand h) (fun _ _ => by rw [ek]; exact hcall) (fun _ _ h => absurd (by rw [hw]) h) (fun _ _ _ => by rw [hw, hRt]) (e1 := fun _ _ _ => ?_), fun a h1 h2 => ?_, fun i hi => ?_, ?_, fun h1 h2 h0 => ?_, fun h => ?_⟩
                · have e2 : (up2 J 146 c (p_and (J 146 c) (p_xor (p_shl 1 (one : Int)) (-1)))) = up1 J 146 (up1 (J 146) c (p_and (J 146 c) (p_xor (p_shl 1 (one : Int)) (-1)))) := up2_up1 _ _ _ _
                  show (up2 (up2 J 146 c (p_and (J 146 c) (p_xor (p_shl 1 (one : Int)) (-1)))) 144 3 (if (mv : Int) ≠ 0 then ((up2 J 146 c (p_and (J 146 c) (p_xor (p_shl 1 (one : Int)) (-1)))) 144 3 : Int) else (10 * (one : Int)) + (c : Int)), S) = _
                  rw [e2, up1_o J (show 144 ≠ 146 by decide), hJ3 3]
                · rw [up2_up1, up1_o _ h2]; exact hfJ a h1 h2
                · rw [up2_k _ hi, up1_o _ (by decide)]; exact hJ3 i
                · rw [up2_up1, up1_o _ (by decide), up1_same]; exact hpb
                · rw [up2_same, if_neg (by omega)]
                  unfold wnF
                  have : fstB (fun m => canP adj g n m && wnS adj n k (up1 g (m / 4) ((m % 4 : Nat) : Int)) false) (4 * n) = ((4 * one + c : Nat) : Int) := by
                    refine fstB_uniq hmn ?_ (fun m hm => ?_)
                    · show (canP adj g n (4 * one + c) && _) = true
                      rw [← hC, hcm]
                      rw [hW, h2] at hw
                      exact hw
                    · show (canP adj g n m && _) = false
                      rw [← hC]
                      cases q9 : C m with
                      | false => rfl
                      | true =>
                        have := hno1 m hm q9
                        rw [hW, h2] at this
                        exact Bool.eq_false_iff.mpr this
                  rw [this]
                  unfold mvO
                  omega
                · rw [up2_same]
                  by_cases h0 : mv = 0
                  · exfalso
                    exact h hRt (by rw [ht, h0]; rfl) h0
                  · rw [if_pos (by omega)]
              · obtain ⟨J2, hL, rest⟩ := ihq (c + 1) 1 (up1 J 146 (up1 (J 146) c (p_and (J 146 c) (p_xor (p_shl 1 (one : Int)) (-1))))) (by omega) (by rw [hany1, hcm, Bool.or_true, if_pos rfl]) (fun m hm => by
                  by_cases em : m = 4 * one + c
                  · rw [em]; exact fun _ => hw
                  · exact hno1 m (by omega)) hfJ (by funext i; rw [up1_o _ (by decide)]; exact hJ3 i) (by rw [up1_same]; exact hpb)
                rw [← up2_up1] at hL
                have hne : (if W (4 * one + c) = true then (1 : Int) else 0) ≠ (if t = true then 1 else 0) := by
                  intro q8
                  apply hw
                  cases h7 : W (4 * one + c) <;> cases h8 : t <;> rw [h7, h8] at q8 <;> first | rfl | (exact absurd q8 (by decide))
                exact ⟨J2, w_X8_isWonByFirst_37 (d := e + 1) (J1 := J) (z1 := W (4 * one + c)) hl0 hl1 (fun h => absurd h (by omega)) (fun _ h => absurd hand h) (fun _ _ => by rw [ek]; exact hcall) (fun _ _ _ => hL) (fun _ _ h => absurd h hne) (e1 := fun _ _ h => absurd h hne), rest⟩
            · have hcf := Bool.eq_false_iff.mpr hcm
              obtain ⟨J2, hL, rest⟩ := ihq (c + 1) cg J1 (by omega) (by rw [hany1, hcf, Bool.or_false]; exact hcg1) (fun m hm => by
                by_cases em : m = 4 * one + c
                · rw [em]; exact fun h => absurd h hcm
                · exact hno1 m (by omega)) hf1 h1441 hq1
              have hnand : ¬(((0 ≤ (c : Int)) ∧ ((c : Int) < 4)) ∧ ((p_and (p_shr (p_or (p_or (p_or (J1 146 0) (J1 146 1)) (J1 146 2)) (J1 146 3)) (one : Int)) 1 = 0) ∧ (p_and (J1 146 c) (J1 (T + 5) one) = 0))) := fun h => hcm (by rw [hCm, decide_eq_true (hany.mp h.2.1), hfree.mp h.2.2]; rfl)
              exact ⟨J2, w_X8_isWonByFirst_37 (d := e + 1) (J1 := J1) (z1 := true) hl0 hl1 (fun h => absurd h (by omega)) (fun _ _ => hL) (fun _ h => absurd h hnand) (fun _ h => absurd h hnand) (fun _ h => absurd h hnand) (e1 := fun _ h => absurd h hnand), rest⟩
        have h60 : J0 T 6 = (n : Int) := by rw [hf T (by omega) (by omega)]; exact h6
        obtain ⟨J, hL, rest⟩ := inner 4 0 cg J0 rfl hcg (fun m hm => hno m (by omega)) hf h144 hq
        exact ⟨J, w_X8_isWonByFirst_25 hl0 hl1 (fun _ => hL) (fun h => absurd h (by omega)), rest⟩
    obtain ⟨J, hL, r1, r2, r3, r4, r5⟩ := loop n 0 0 I (by omega) rfl (fun m hm => absurd hm (by omega)) (fun _ _ _ => rfl) rfl hp
    rw [← ht, ← hR]
    rw [← ht3] at hL
    exact ⟨J, w_X8_isWonByFirst_0 hl0 hl1 (fun _ => hL) (fun h => absurd h (by omega)), r1, r2, r3, fin J r4 r5⟩
end
end
