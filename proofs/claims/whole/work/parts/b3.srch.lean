/-! ===== the class's search: the first way, how many ways ===== -/
noncomputable section
theorem rch_congr {adj adj' : Nat → Nat → Bool} {ok ok' : Nat → Bool} {s m : Nat} (ha : ∀ u i, u < m → i < m → adj u i = adj' u i) (ho : ∀ i, i < m → ok i = ok' i) : ∀ (n i : Nat), i < m → rch adj ok s m n i = rch adj' ok' s m n i
  | 0, _, _ => rfl
  | n + 1, i, hi => by
    show (rch adj ok s m n i || (ok i && anyB (fun u => rch adj ok s m n u && adj u i) m)) = (rch adj' ok' s m n i || (ok' i && anyB (fun u => rch adj' ok' s m n u && adj' u i) m))
    rw [rch_congr ha ho n i hi, ho i hi]
    congr 2
    exact anyB_congr (fun u hu => by rw [rch_congr ha ho n u hu, ha u i hu hi])
theorem chV_congr {adj adj' : Nat → Nat → Bool} {ok ok' : Nat → Bool} {s m : Nat} (ha : ∀ u i, u < m → i < m → adj u i = adj' u i) (ho : ∀ i, i < m → ok i = ok' i) : chV adj ok s m = chV adj' ok' s m :=
  btN_congr (fun k hk => rch_congr ha ho m k hk)
theorem rch_ok {adj : Nat → Nat → Bool} {ok : Nat → Bool} {s m : Nat} : ∀ {n i : Nat}, rch adj ok s m n i = true → i = s ∨ ok i = true
  | 0, _, h => Or.inl (of_decide_eq_true h)
  | n + 1, i, h => by
    have h : (rch adj ok s m n i || (ok i && anyB (fun u => rch adj ok s m n u && adj u i) m)) = true := h
    rcases Bool.or_eq_true_iff.mp h with h | h
    · exact rch_ok h
    · exact Or.inr (Bool.and_eq_true_iff.mp h).1
theorem rch_self {adj : Nat → Nat → Bool} {ok : Nat → Bool} {s m : Nat} : ∀ n : Nat, rch adj ok s m n s = true
  | 0 => decide_eq_true rfl
  | n + 1 => rch_mono (rch_self n)
/-- a chain may be switched; its spots; the colours then -/
def canS (g : Nat → Int) (s : Nat) (c : Int) : Bool := decide (g s ≠ -1 ∧ g s ≠ c ∧ 0 ≤ c ∧ c < 4)
def chG (adj : Nat → Nat → Bool) (g : Nat → Int) (n s : Nat) (c : Int) : Int := chV adj (fun i => decide (g i = c ∨ g i = g s)) s n
def swG (adj : Nat → Nat → Bool) (g : Nat → Int) (n s : Nat) (c : Int) : Nat → Int := xcG g n (chG adj g n s c) (g s) c
theorem chG_s {adj : Nat → Nat → Bool} {g : Nat → Int} {n s : Nat} {c : Int} (hn : n ≤ 12) (hs : s < n) : bt (chG adj g n s c) s = true := by
  unfold chG chV
  rw [btN_bt (by omega), decide_eq_true hs, rch_self]
  rfl
theorem chG_ne {adj : Nat → Nat → Bool} {g : Nat → Int} {n s : Nat} {c : Int} (hn : n ≤ 12) (hs : s < n) : chG adj g n s c ≠ 0 := by
  intro q
  have := chG_s (adj := adj) (g := g) (c := c) hn hs
  rw [q, bt_zero] at this
  cases this
theorem chG_col {adj : Nat → Nat → Bool} {g : Nat → Int} {n s : Nat} {c : Int} (hn : n ≤ 12) {i : Nat} (h : bt (chG adj g n s c) i = true) : i < n ∧ (g i = c ∨ g i = g s) := by
  unfold chG chV at h
  rw [btN_bt (by omega)] at h
  obtain ⟨h1, h2⟩ := Bool.and_eq_true_iff.mp h
  refine ⟨of_decide_eq_true h1, ?_⟩
  rcases rch_ok h2 with q | q
  · exact Or.inr (by rw [q])
  · exact of_decide_eq_true q
theorem chG_isI {adj : Nat → Nat → Bool} {g : Nat → Int} {n s : Nat} {c : Int} : isI (chG adj g n s c) := btN_isI _ _
theorem chG_congr {adj : Nat → Nat → Bool} {g g' : Nat → Int} {n s : Nat} {c : Int} (hs : s < n) (e : ∀ i, i < n → g i = g' i) : chG adj g n s c = chG adj g' n s c :=
  chV_congr (fun _ _ _ _ => rfl) (fun i hi => by rw [e i hi, e s hs])
theorem swG_congr {adj : Nat → Nat → Bool} {g g' : Nat → Int} {n s : Nat} {c : Int} (hs : s < n) (e : ∀ i, i < n → g i = g' i) (i : Nat) (hi : i < n) : swG adj g n s c i = swG adj g' n s c i := by
  unfold swG xcG
  rw [chG_congr hs e, e i hi, e s hs]
theorem canS_iff {g : Nat → Int} {s : Nat} {c : Int} : canS g s c = true ↔ g s ≠ -1 ∧ g s ≠ c ∧ 0 ≤ c ∧ c < 4 := decide_eq_true_iff
/-- the class's map, told plainly -/
def cAd (I : Nat → Nat → Int) (T n : Nat) (adj : Nat → Nat → Bool) : Prop := I T 6 = (n : Int) ∧ n ≤ 12 ∧ (∀ u i, u < n → adj u i = bt (I (T + 5) u) i) ∧ ∀ u i, u < n → adj u i = true → i < n
theorem pnt_unused {f g : Nat → Int} {n c : Nat} (h : pnt f g n) (hc : c < 4) : f c = 0 ↔ ∀ i, i < n → g i ≠ (c : Int) := by
  constructor
  · intro q i hi w
    have := (pnt_bit h hc hi).mpr w
    rw [q, bt_zero] at this
    cases this
  · intro q
    refine bt_ext (h.2 c hc).1 ⟨by decide, by decide⟩ (fun i _ => ?_)
    rw [bt_zero, (h.2 c hc).2 i]
    by_cases hi : i < n
    · rw [decide_eq_false (q i hi), Bool.and_false]
    · rw [decide_eq_false hi, Bool.false_and]
theorem pnt_chC {f g ne : Nat → Int} {n s : Nat} {c : Int} {adj : Nat → Nat → Bool} (h : pnt f g n) (hs : s < n) (ha : ∀ u i, u < n → adj u i = bt (ne u) i) : chC f ne (n : Int) (s : Int) c = if canS g s c = true then chG adj g n s c else 0 := by
  unfold chC
  rw [pnt_col h hs]
  by_cases q : g s ≠ -1 ∧ g s ≠ c ∧ 0 ≤ c ∧ c < 4
  · rw [if_pos q, if_pos (canS_iff.mpr q), Int.toNat_natCast, Int.toNat_natCast]
    have hr := h.1.2 s hs
    unfold chG
    refine chV_congr (fun u i hu hi => (ha u i hu).symm) (fun i hi => ?_)
    rw [bt_or]
    have e1 := pnt_bit h (c := (g s).toNat) (s := i) (by omega) hi
    have e2 := pnt_bit h (c := c.toNat) (s := i) (by omega) hi
    rw [show (((g s).toNat : Nat) : Int) = g s by omega] at e1
    rw [show ((c.toNat : Nat) : Int) = c by omega] at e2
    by_cases w : g i = c ∨ g i = g s
    · rw [decide_eq_true w]
      rcases w with w | w
      · rw [e2.mpr w, Bool.or_true]
      · rw [e1.mpr w, Bool.true_or]
    · rw [decide_eq_false w]
      have n1 : bt (f (g s).toNat) i = false := Bool.eq_false_iff.mpr (fun k => w (Or.inr (e1.mp k)))
      have n2 : bt (f c.toNat) i = false := Bool.eq_false_iff.mpr (fun k => w (Or.inl (e2.mp k)))
      rw [n1, n2]; rfl
  · rw [if_neg q, if_neg (fun k => q (canS_iff.mp k))]
theorem up1_back {g : Nat → Int} {s : Nat} {c : Int} (hg : g s = -1) (i : Nat) : up1 (up1 g s c) s (-1) i = g i := by
  by_cases e : i = s
  · subst e; rw [up1_same, hg]
  · rw [up1_o _ e, up1_o _ e]
section
variable {S : PS} {T n : Nat} {adj : Nat → Nat → Bool}
theorem cAd_of {I J : Nat → Nat → Int} (hT : T = 34 ∨ T = 77) (h : cAd I T n adj) (e : ∀ a, a ≠ 146 → a ≠ 144 → J a = I a) : cAd J T n adj := by
  unfold cAd
  rw [e T (by omega) (by omega), e (T + 5) (by omega) (by omega)]
  exact h
theorem fw_C (hT : T = 34 ∨ T = 77) (hl0 : LyX8 S) (hl1 : LyX0 S T) : ∀ (j s d : Nat) (I : Nat → Nat → Int) (g : Nat → Int), s + j = n → j ≤ d → cAd I T n adj → pnt (I 146) g n → ∃ J z, Ca (d + 2) mX8_firstWay [vR (some (18, 0, 144)), vR (some (11, 0, T)), vI (s : Int)] (I, S) (.inl (some (vI (if z = true then 1 else 0)))) (J, S) ∧ (∀ a, a ≠ 146 → J a = I a) ∧ z = (fwS adj n j s g).isSome ∧ pnt (J 146) ((fwS adj n j s g).getD g) n := by
  intro j
  induction j with
  | zero =>
    intro s d I g hs hd hA hp
    have h6 := hA.1
    have hn := hA.2.1
    exact ⟨I, true, w_X8_firstWay_0 (J1 := I) (z1 := true) hl0 hl1 (fun h => absurd h (by omega)) (fun h => absurd h (by omega)) (fun h => absurd h (by omega)) (r2 := fun _ => rfl), fun _ _ => rfl, rfl, hp⟩
  | succ j ih =>
    intro s d I g hs hd hA hp
    have h6 := hA.1
    have hn := hA.2.1
    obtain ⟨e, rfl⟩ : ∃ e, d = e + 1 := ⟨d - 1, by omega⟩
    have hany := pnt_any hp (show s < n by omega)
    have hst : fwS adj n (j + 1) s g = if g s ≠ -1 then fwS adj n j (s + 1) g else foS (fun c => if frP adj g n s (c : Int) = true then fwS adj n j (s + 1) (up1 g s (c : Int)) else none) 4 0 := rfl
    by_cases hc : g s ≠ -1
    · obtain ⟨J, z, hcall, ho, hz, hq⟩ := ih (s + 1) e I g (by omega) (by omega) hA hp
      refine ⟨J, z, w_X8_firstWay_0 (d := e + 1) (J1 := J) (z1 := z) hl0 hl1 (fun _ q => absurd (hany.mpr hc) q) (fun _ _ => hcall) (fun _ _ => rfl) (r2 := fun h => absurd h (by omega)), ho, ?_, ?_⟩
      · rw [hst, if_pos hc]; exact hz
      · rw [hst, if_pos hc]; exact hq
    · have hg : g s = -1 := by
        apply Classical.byContradiction
        exact hc
      obtain ⟨h4, hh4⟩ : ∃ q : Nat → Option (Nat → Int), q = (fun c : Nat => if frP adj g n s (c : Int) = true then fwS adj n j (s + 1) (up1 g s (c : Int)) else none) := ⟨_, rfl⟩
      rw [if_neg hc, ← hh4] at hst
      have loop : ∀ (k c : Nat) (J0 : Nat → Nat → Int), k + c = 4 → (∀ a, a ≠ 146 → J0 a = I a) → pnt (J0 146) g n → ∃ J z, L_X8_firstWay_32 (e + 1) 144 T (s : Int) (c : Int) J0 S (if z = true then 1 else 0) (J, S) ∧ (∀ a, a ≠ 146 → J a = I a) ∧ z = (foS h4 k c).isSome ∧ pnt (J 146) ((foS h4 k c).getD g) n := by
        intro k
        induction k with
        | zero =>
          intro c J0 hk hf hq
          exact ⟨J0, false, w_X8_firstWay_32 (J1 := J0) (z1 := true) hl0 hl1 (fun h => absurd h (by omega)) (fun h => absurd h (by omega)) (fun h => absurd h (by omega)) (fun _ => rfl) (r2 := fun h => absurd h (by omega)), hf, rfl, hq⟩
        | succ k ihk =>
          intro c J0 hk hf hq
          have hA0 : cAd J0 T n adj := cAd_of hT hA (fun a h1 _ => hf a h1)
          have hfree := pnt_free hq (c := c) (s := s) (m := J0 (T + 5) s) (adj := adj) (by omega) (fun i _ => hA0.2.2.1 s i (by omega))
          have hu : foS h4 (k + 1) c = match h4 c with
            | some x => some x
            | none => foS h4 k (c + 1) := rfl
          by_cases hb : frP adj g n s (c : Int) = true
          · have hz0 := hfree.mpr hb
            have h4c : h4 c = fwS adj n j (s + 1) (up1 g s (c : Int)) := by rw [hh4]; show (if _ then _ else _) = _; rw [if_pos hb]
            obtain ⟨X, hX⟩ : ∃ X, X = up2 J0 146 c (p_or (J0 146 c) (p_shl 1 (s : Int))) := ⟨_, rfl⟩
            have hX1 := hX
            rw [up2_up1] at hX1
            obtain ⟨J, z, hcall, ho, hz, hq2⟩ := ih (s + 1) e X (up1 g s (c : Int)) (by omega) (by omega) (cAd_of hT hA0 (fun a h1 _ => by rw [hX1, up1_o _ h1])) (by rw [hX1, up1_same]; exact pnt_put hq (by omega) (by omega) hg)
            have hfJ : ∀ a, a ≠ 146 → J a = I a := fun a h1 => by rw [ho a h1, hX1, up1_o _ h1, hf a h1]
            rw [hX] at hcall
            rw [← h4c] at hz hq2
            rw [hu]
            cases h5 : h4 c with
            | some x =>
              rw [h5] at hz hq2
              rw [show z = true from hz] at hcall
              exact ⟨J, true, w_X8_firstWay_32 (d := e + 1) (J1 := J) (z1 := true) hl0 hl1 (fun _ q => absurd hz0 q) (fun _ _ => hcall) (fun _ _ q => absurd rfl q) (fun h => absurd h (by omega)) (r2 := fun _ _ _ => rfl), hfJ, rfl, hq2⟩
            | none =>
              rw [h5] at hz hq2
              rw [show z = false from hz] at hcall
              obtain ⟨Y, hY⟩ : ∃ Y, Y = up2 J 146 c (p_and (J 146 c) (p_xor (p_shl 1 (s : Int)) (-1))) := ⟨_, rfl⟩
              have hY1 := hY
              rw [up2_up1] at hY1
              obtain ⟨J2, z2, hL, ho2, hz2, hq3⟩ := ihk (c + 1) Y (by omega) (fun a h1 => by rw [hY1, up1_o _ h1, hfJ a h1]) (by
                rw [hY1, up1_same]
                exact pnt_ext (pnt_take (c := c) (s := s) hq2 (by omega) (by omega) (up1_same _ _ _)) (fun i _ => up1_back hg i))
              rw [hY] at hL
              exact ⟨J2, z2, w_X8_firstWay_32 (d := e + 1) (J1 := J) (z1 := false) hl0 hl1 (fun _ q => absurd hz0 q) (fun _ _ => hcall) (fun _ _ _ => hL) (fun h => absurd h (by omega)) (r2 := fun _ _ q => absurd q (by decide)), ho2, hz2, hq3⟩
          · have h4c : h4 c = none := by rw [hh4]; show (if _ then _ else _) = _; rw [if_neg hb]
            obtain ⟨J2, z2, hL, ho2, hz2, hq3⟩ := ihk (c + 1) J0 (by omega) hf hq
            rw [hu, h4c]
            exact ⟨J2, z2, w_X8_firstWay_32 (d := e + 1) (J1 := J0) (z1 := false) hl0 hl1 (fun _ _ => hL) (fun _ q => absurd (hfree.mp q) hb) (fun _ q => absurd (hfree.mp q) hb) (fun h => absurd h (by omega)) (r2 := fun _ q => absurd (hfree.mp q) hb), ho2, hz2, hq3⟩
      obtain ⟨J, z, hL, ho, hz, hq⟩ := loop 4 0 I rfl (fun _ _ => rfl) hp
      rw [hst]
      exact ⟨J, z, w_X8_firstWay_0 (d := e + 1) (J1 := J) (z1 := z) hl0 hl1 (fun _ _ => hL) (fun _ q => absurd (hany.mp q) hc) (fun _ q => absurd (hany.mp q) hc) (r2 := fun h => absurd h (by omega)), ho, hz, hq⟩
theorem cw_C (hT : T = 34 ∨ T = 77) (hl0 : LyX8 S) (hl1 : LyX0 S T) : ∀ (j s d : Nat) (I : Nat → Nat → Int) (g : Nat → Int), s + j = n → j ≤ d → cAd I T n adj → pnt (I 146) g n → ∃ J, Ca (d + 2) mX8_countWays [vR (some (18, 0, 144)), vR (some (11, 0, T)), vI (s : Int)] (I, S) (.inl (some (vI (ctW adj n j s g)))) (J, S) ∧ (∀ a, a ≠ 146 → J a = I a) ∧ pnt (J 146) g n := by
  intro j
  induction j with
  | zero =>
    intro s d I g hs hd hA hp
    have h6 := hA.1
    have hn := hA.2.1
    exact ⟨I, w_X8_countWays_0 (J1 := I) (z1 := 0) hl0 hl1 (fun h => absurd h (by omega)) (fun h => absurd h (by omega)) (fun h => absurd h (by omega)) (r2 := fun _ => rfl), fun _ _ => rfl, hp⟩
  | succ j ih =>
    intro s d I g hs hd hA hp
    have h6 := hA.1
    have hn := hA.2.1
    obtain ⟨e, rfl⟩ : ∃ e, d = e + 1 := ⟨d - 1, by omega⟩
    have hany := pnt_any hp (show s < n by omega)
    have hst : ctW adj n (j + 1) s g = if g s ≠ -1 then ctW adj n j (s + 1) g else smI (fun c => if frP adj g n s (c : Int) = true then ctW adj n j (s + 1) (up1 g s (c : Int)) else 0) 4 := rfl
    by_cases hc : g s ≠ -1
    · obtain ⟨J, hcall, ho, hq⟩ := ih (s + 1) e I g (by omega) (by omega) hA hp
      rw [hst, if_pos hc]
      exact ⟨J, w_X8_countWays_0 (d := e + 1) (J1 := J) (z1 := ctW adj n j (s + 1) g) hl0 hl1 (fun _ q => absurd (hany.mpr hc) q) (fun _ _ => hcall) (fun _ _ => rfl) (r2 := fun h => absurd h (by omega)), ho, hq⟩
    · have hg : g s = -1 := by
        apply Classical.byContradiction
        exact hc
      obtain ⟨H, hH⟩ : ∃ q : Nat → Int, q = (fun c : Nat => if frP adj g n s (c : Int) = true then ctW adj n j (s + 1) (up1 g s (c : Int)) else 0) := ⟨_, rfl⟩
      rw [if_neg hc, ← hH] at hst
      have p4 := pow4_le (j := j) (by omega)
      have p4' : (4 : Int) ^ j ≤ 4194304 := by
        have : ∀ j : Fin 12, (4 : Int) ^ j.val ≤ 4194304 := by decide
        exact this ⟨j, by omega⟩
      have hHin : ∀ c, 0 ≤ H c ∧ H c ≤ 4194304 := fun c => by
        rw [hH]
        show 0 ≤ (if _ then _ else _ : Int) ∧ (if _ then _ else _ : Int) ≤ _
        have := ctW_in adj n j (s + 1) (up1 g s (c : Int))
        split <;> omega
      have hsum : ∀ c, c ≤ 4 → 0 ≤ smI H c ∧ smI H c ≤ 16777216 := fun c h => by
        have := smI_le (g := H) (m := 4194304) (n := c) (fun k _ => hHin k)
        omega
      have loop : ∀ (k c : Nat) (u : Int) (J0 : Nat → Nat → Int), k + c = 4 → (∀ a, a ≠ 146 → J0 a = I a) → pnt (J0 146) g n → ((u = -1 ∧ ∀ c', c' < c → ¬(∀ i, i < n → g i ≠ (c' : Int))) ∨ (0 ≤ u ∧ u ≤ 4194304 ∧ ∃ c', c' < c ∧ (∀ i, i < n → g i ≠ (c' : Int)) ∧ u = ctW adj n j (s + 1) (up1 g s (c' : Int)))) → ∃ J, L_X8_countWays_38 (e + 1) 144 T (s : Int) (smI H c) u (c : Int) J0 S (smI H 4) (J, S) ∧ (∀ a, a ≠ 146 → J a = I a) ∧ pnt (J 146) g n := by
        intro k
        induction k with
        | zero =>
          intro c u J0 hk hf hq _
          exact ⟨J0, w_X8_countWays_38 (J1 := J0) (J2 := J0) (z1 := 0) (z2 := 0) hl0 hl1 (fun h => absurd h (by omega)) (fun h => absurd h (by omega)) (fun h => absurd h (by omega)) (fun h => absurd h (by omega)) (fun h => absurd h (by omega)) (fun h => absurd h (by omega)) (fun h => absurd h (by omega)) (fun _ => by rw [show c = 4 by omega]), hf, hq⟩
        | succ k ihk =>
          intro c u J0 hk hf hq hinv
          have hA0 : cAd J0 T n adj := cAd_of hT hA (fun a h1 _ => hf a h1)
          have hfree := pnt_free hq (c := c) (s := s) (m := J0 (T + 5) s) (adj := adj) (by omega) (fun i _ => hA0.2.2.1 s i (by omega))
          have hun := pnt_unused hq (c := c) (by omega)
          have hsc := hsum c (by omega)
          have hsu : smI H (c + 1) = smI H c + H c := rfl
          have hHc : H c = if frP adj g n s (c : Int) = true then ctW adj n j (s + 1) (up1 g s (c : Int)) else 0 := by rw [hH]
          have hub : -1 ≤ u ∧ u ≤ 4194304 := by
            rcases hinv with q | q
            · omega
            · omega
          -- painted with it, and taken back
          have try_ : frP adj g n s (c : Int) = true → ∃ J, Ca (e + 2) mX8_countWays [vR (some (18, 0, 144)), vR (some (11, 0, T)), vI ((s : Int) + 1)] (up2 J0 146 c (p_or (J0 146 c) (p_shl 1 (s : Int))), S) (.inl (some (vI (H c)))) (J, S) ∧ (∀ a, a ≠ 146 → up2 J 146 c (p_and (J 146 c) (p_xor (p_shl 1 (s : Int)) (-1))) a = I a) ∧ pnt (up2 J 146 c (p_and (J 146 c) (p_xor (p_shl 1 (s : Int)) (-1))) 146) g n := by
            intro hb
            obtain ⟨X, hX⟩ : ∃ X, X = up2 J0 146 c (p_or (J0 146 c) (p_shl 1 (s : Int))) := ⟨_, rfl⟩
            have hX1 := hX
            rw [up2_up1] at hX1
            obtain ⟨J, hcall, ho, hq2⟩ := ih (s + 1) e X (up1 g s (c : Int)) (by omega) (by omega) (cAd_of hT hA0 (fun a h1 _ => by rw [hX1, up1_o _ h1])) (by rw [hX1, up1_same]; exact pnt_put hq (by omega) (by omega) hg)
            rw [hX] at hcall
            rw [hHc, if_pos hb]
            refine ⟨J, hcall, fun a h1 => ?_, ?_⟩
            · rw [up2_up1, up1_o _ h1, ho a h1, hX1, up1_o _ h1, hf a h1]
            · rw [up2_up1, up1_same]
              exact pnt_ext (pnt_take (c := c) (s := s) hq2 (by omega) (by omega) (up1_same _ _ _)) (fun i _ => up1_back hg i)
          by_cases hu0 : ∀ i, i < n → g i ≠ (c : Int)
          · have hz0 : J0 146 c = 0 := hun.mpr hu0
            have hb : frP adj g n s (c : Int) = true := frP_iff.mpr (fun i hi _ => hu0 i hi)
            rcases hinv with ⟨q1, q2⟩ | ⟨q1, q1', c', q2, q3, q4⟩
            · obtain ⟨J, hcall, ho, hp2⟩ := try_ hb
              obtain ⟨J2, hL, ho2, hp3⟩ := ihk (c + 1) (H c) _ (by omega) ho hp2 (Or.inr ⟨(hHin c).1, (hHin c).2, c, by omega, hu0, by rw [hHc, if_pos hb]⟩)
              have hHb := hHin c
              refine ⟨J2, w_X8_countWays_38 (d := e + 1) (J1 := J) (J2 := J) (z1 := H c) (z2 := H c) hl0 hl1 (fun _ h => absurd hz0 h) (fun _ h => absurd hz0 h) (fun _ h => absurd hz0 h) (fun _ _ _ h => absurd (hfree.mpr hb) h) (fun _ _ _ _ => hcall) (fun _ _ _ _ => ?_) (fun _ _ h => absurd q1 h) (fun h => absurd h (by omega)), ho2, hp3⟩
              have ee : (if ¬(J0 146 (c : Int).toNat = 0) then u else H c) = H c := if_neg (fun h => h hz0)
              rw [ee]
              exact hL
            · have hHb := hHin c
              have hsym : H c = u := by rw [hHc, if_pos hb, q4]; exact ctW_unused adj (by omega) (by omega) (by omega) hu0 q3
              obtain ⟨J2, hL, ho2, hp3⟩ := ihk (c + 1) u J0 (by omega) hf hq (Or.inr ⟨q1, q1', c', by omega, q3, q4⟩)
              refine ⟨J2, w_X8_countWays_38 (d := e + 1) (J1 := J0) (J2 := J0) (z1 := H c) (z2 := H c) hl0 hl1 (fun _ h => absurd hz0 h) (fun _ h => absurd hz0 h) (fun _ h => absurd hz0 h) (fun _ _ h => absurd h (by omega)) (fun _ _ h => absurd h (by omega)) (fun _ _ h => absurd h (by omega)) (fun _ _ _ => ?_) (fun h => absurd h (by omega)), ho2, hp3⟩
              rw [hsu, hsym] at hL
              exact hL
          · have hz0 : ¬(J0 146 c = 0) := fun h => hu0 (hun.mp h)
            have hinv2 : ((u = -1 ∧ ∀ c', c' < c + 1 → ¬(∀ i, i < n → g i ≠ (c' : Int))) ∨ (0 ≤ u ∧ u ≤ 4194304 ∧ ∃ c', c' < c + 1 ∧ (∀ i, i < n → g i ≠ (c' : Int)) ∧ u = ctW adj n j (s + 1) (up1 g s (c' : Int)))) := by
              rcases hinv with ⟨q1, q2⟩ | ⟨q1, q1', c', q2, q3, q4⟩
              · refine Or.inl ⟨q1, fun c' h => ?_⟩
                by_cases e : c' = c
                · rw [e]; exact hu0
                · exact q2 c' (by omega)
              · exact Or.inr ⟨q1, q1', c', by omega, q3, q4⟩
            by_cases hb : frP adj g n s (c : Int) = true
            · obtain ⟨J, hcall, ho, hp2⟩ := try_ hb
              obtain ⟨J2, hL, ho2, hp3⟩ := ihk (c + 1) u _ (by omega) ho hp2 hinv2
              have hHb := hHin c
              refine ⟨J2, w_X8_countWays_38 (d := e + 1) (J1 := J) (J2 := J) (z1 := H c) (z2 := H c) hl0 hl1 (fun _ _ h => absurd (hfree.mpr hb) h) (fun _ _ _ => hcall) (fun _ _ _ => ?_) (fun _ h => absurd h hz0) (fun _ h => absurd h hz0) (fun _ h => absurd h hz0) (fun _ h => absurd h hz0) (fun h => absurd h (by omega)), ho2, hp3⟩
              have ee : (if ¬(J0 146 (c : Int).toNat = 0) then u else H c) = u := if_pos hz0
              rw [ee]
              exact hL
            · obtain ⟨J2, hL, ho2, hp3⟩ := ihk (c + 1) u J0 (by omega) hf hq hinv2
              have hHb := hHin c
              rw [hsu, hHc, if_neg hb, Int.add_zero] at hL
              exact ⟨J2, w_X8_countWays_38 (d := e + 1) (J1 := J0) (J2 := J0) (z1 := H c) (z2 := H c) hl0 hl1 (fun _ _ _ => hL) (fun _ _ h => absurd (hfree.mp h) hb) (fun _ _ h => absurd (hfree.mp h) hb) (fun _ h => absurd h hz0) (fun _ h => absurd h hz0) (fun _ h => absurd h hz0) (fun _ h => absurd h hz0) (fun h => absurd h (by omega)), ho2, hp3⟩
      obtain ⟨J, hL, ho, hq⟩ := loop 4 0 (-1) I rfl (fun _ _ => rfl) hp (Or.inl ⟨rfl, fun _ h => absurd h (by omega)⟩)
      rw [hst]
      exact ⟨J, w_X8_countWays_0 (d := e + 1) (J1 := J) (z1 := 0) hl0 hl1 (fun _ _ => hL) (fun _ q => absurd (hany.mp q) hc) (fun _ q => absurd (hany.mp q) hc) (r2 := fun h => absurd h (by omega)), ho, hq⟩
end
end
