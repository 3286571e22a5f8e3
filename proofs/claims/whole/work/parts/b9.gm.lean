/-! ===== the game, the reference's ===== -/
noncomputable section
theorem fg_add {x : Int} {d k c : Nat} (hx : 0 ≤ x) (hd : d < 4) (hk : k < 4) (hc : c < 4) (h0 : fgI x d % 5 = 0) : fgI (x + ((c : Int) + 1) * pwI 5 d) k % 5 = if k = d then (c : Int) + 1 else fgI x k % 5 := by
  have h1 : d = 0 ∨ d = 1 ∨ d = 2 ∨ d = 3 := by omega
  have h2 : k = 0 ∨ k = 1 ∨ k = 2 ∨ k = 3 := by omega
  rcases h1 with rfl | rfl | rfl | rfl <;> rcases h2 with rfl | rfl | rfl | rfl <;> simp [fgI, pwI] at h0 ⊢ <;> omega
theorem fg_bd {x : Int} {d m c : Nat} (hx : 0 ≤ x ∧ x < pwI 5 m) (hm : m ≤ 4) (hd : d < m) (hc : c < 4) (h0 : fgI x d % 5 = 0) : 0 ≤ x + ((c : Int) + 1) * pwI 5 d ∧ x + ((c : Int) + 1) * pwI 5 d < pwI 5 m ∧ x < x + ((c : Int) + 1) * pwI 5 d := by
  have h1 : d = 0 ∨ d = 1 ∨ d = 2 ∨ d = 3 := by omega
  have h2 : m = 1 ∨ m = 2 ∨ m = 3 ∨ m = 4 := by omega
  rcases h1 with rfl | rfl | rfl | rfl <;> rcases h2 with rfl | rfl | rfl | rfl <;> simp [fgI, pwI] at h0 hx hd ⊢ <;> omega
theorem fg_in (x : Int) (k : Nat) : 0 ≤ fgI x k % 5 ∧ fgI x k % 5 < 5 := ⟨Int.emod_nonneg _ (by decide), Int.emod_lt_of_pos _ (by decide)⟩
/-- colours by a code, how many it paints -/
def gmG (g : Nat → Int) (o : Nat → Nat) (x : Int) : Nat → Nat → Int
  | 0 => g
  | k + 1 => up1 (gmG g o x k) (o k) (fgI x k % 5 - 1)
def gmN (x : Int) : Nat → Int
  | 0 => 0
  | k + 1 => gmN x k + (if 0 < fgI x k % 5 then 1 else 0)
theorem gmN_in (x : Int) : ∀ k : Nat, 0 ≤ gmN x k ∧ gmN x k ≤ k
  | 0 => ⟨Int.le_refl 0, Int.le_refl 0⟩
  | k + 1 => by
    have := gmN_in x k
    unfold gmN
    split <;> omega
section
variable {g : Nat → Int} {o : Nat → Nat} {m n : Nat} {adj : Nat → Nat → Bool}
theorem gmG_out {x : Int} {i : Nat} : ∀ k : Nat, (∀ j, j < k → o j ≠ i) → gmG g o x k i = g i
  | 0, _ => rfl
  | k + 1, h => by
    show up1 (gmG g o x k) (o k) _ i = _
    rw [up1_o _ (fun q => h k (by omega) q.symm)]
    exact gmG_out k (fun j hj => h j (by omega))
theorem gmG_at {x : Int} (hinc : ∀ i k, i < k → k < m → o i < o k) {j : Nat} : ∀ k : Nat, j < k → k ≤ m → gmG g o x k (o j) = fgI x j % 5 - 1
  | 0, h, _ => absurd h (by omega)
  | k + 1, h, hm => by
    show up1 (gmG g o x k) (o k) _ (o j) = _
    by_cases e : j = k
    · rw [e, up1_same]
    · have := hinc j k (by omega) (by omega)
      rw [up1_o _ (by omega)]
      exact gmG_at hinc k (by omega) (by omega)
theorem gmG_step {x : Int} {d c : Nat} (hx : 0 ≤ x) (hinc : ∀ i k, i < k → k < m → o i < o k) (hm : m ≤ 4) (hd : d < m) (hc : c < 4) (h0 : fgI x d % 5 = 0) : (∀ i, gmG g o (x + ((c : Int) + 1) * pwI 5 d) m i = up1 (gmG g o x m) (o d) (c : Int) i) ∧ gmN (x + ((c : Int) + 1) * pwI 5 d) m = gmN x m + 1 := by
  have dig : ∀ k, k < m → fgI (x + ((c : Int) + 1) * pwI 5 d) k % 5 = if k = d then (c : Int) + 1 else fgI x k % 5 := fun k hk => fg_add hx (by omega) (by omega) hc h0
  constructor
  · intro i
    by_cases hi : ∃ j, j < m ∧ o j = i
    · obtain ⟨j, hj, rfl⟩ := hi
      rw [gmG_at hinc m hj (Nat.le_refl m), dig j hj]
      by_cases e : j = d
      · rw [if_pos e, e, up1_same]; omega
      · have hne : o j ≠ o d := by
          by_cases q : j < d
          · have := hinc j d q hd; omega
          · have := hinc d j (by omega) hj; omega
        rw [if_neg e, up1_o _ hne, gmG_at hinc m hj (Nat.le_refl m)]
    · have hno : ∀ j, j < m → o j ≠ i := fun j hj q => hi ⟨j, hj, q⟩
      rw [gmG_out m hno, up1_o _ (fun q => hno d hd q.symm), gmG_out m hno]
  · have go : ∀ k, k ≤ m → gmN (x + ((c : Int) + 1) * pwI 5 d) k = gmN x k + (if d < k then 1 else 0) := by
      intro k
      induction k with
      | zero => intro _; rfl
      | succ k ih =>
        intro hk
        show gmN _ k + (if 0 < fgI _ k % 5 then 1 else 0) = gmN x k + (if 0 < fgI x k % 5 then 1 else 0) + _
        rw [ih (by omega), dig k (by omega)]
        by_cases e : k = d
        · have q1 : ¬(d < k) := by omega
          have q2 : d < k + 1 := by omega
          rw [if_pos e, if_neg q1, if_pos q2, e, h0, if_pos (show (0 : Int) < (c : Int) + 1 by omega), if_neg (show ¬((0 : Int) < 0) by decide)]
        · rw [if_neg e]
          by_cases q : d < k
          · rw [if_pos q, if_pos (show d < k + 1 by omega)]; omega
          · rw [if_neg q, if_neg (show ¬(d < k + 1) by omega)]; omega
    rw [go m (Nat.le_refl m), if_pos hd]
/-- who wins from a code on -/
def gmW (adj : Nat → Nat → Bool) (n m : Nat) (g : Nat → Int) (o : Nat → Nat) (x : Int) : Bool := wnS adj n ((m : Int) - gmN x m).toNat (gmG g o x m) (decide (gmN x m % 2 = 0))
def gmV (adj : Nat → Nat → Bool) (n m : Nat) (g : Nat → Int) (o : Nat → Nat) (x : Int) : Int := if gmW adj n m g o x = true then 1 else 2
theorem wnS_congr (adj : Nat → Nat → Bool) (n : Nat) : ∀ (k : Nat) (g g' : Nat → Int) (t : Bool), (∀ i, i < n → g i = g' i) → wnS adj n k g t = wnS adj n k g' t
  | 0, _, _, _, _ => rfl
  | k + 1, g, g', t, h => by
    have hc : ∀ m', m' < 4 * n → canP adj g n m' = canP adj g' n m' := fun m' hm => by
      unfold canP; rw [h (m' / 4) (by omega), frP_congr h]
    have hw : ∀ (m' : Nat) (t' : Bool), wnS adj n k (up1 g (m' / 4) ((m' % 4 : Nat) : Int)) t' = wnS adj n k (up1 g' (m' / 4) ((m' % 4 : Nat) : Int)) t' := fun m' t' => wnS_congr adj n k _ _ t' (fun i hi => by
      by_cases e : i = m' / 4
      · rw [e, up1_same, up1_same]
      · rw [up1_o _ e, up1_o _ e]; exact h i hi)
    cases t with
    | true => exact anyB_congr (fun m' hm => by rw [hc m' hm, hw])
    | false =>
      show (anyB (canP adj g n) (4 * n) && allB _ (4 * n)) = (anyB (canP adj g' n) (4 * n) && allB _ (4 * n))
      rw [anyB_congr (fun m' hm => hc m' hm)]
      congr 1
      exact allB_congr (fun m' hm => by rw [hc m' hm, hw])
/-- moves over open spots alone -/
theorem any_open {G : Nat → Int} {F : Nat → Bool} (ho : ∀ k, k < m → o k < n) (hall : ∀ i, i < n → G i = -1 → ∃ k, k < m ∧ o k = i) : anyB (fun m' => canP adj G n m' && F m') (4 * n) = anyB (fun q => canP adj G n (4 * o (q / 4) + q % 4) && F (4 * o (q / 4) + q % 4)) (4 * m) := by
  have key : anyB (fun m' => canP adj G n m' && F m') (4 * n) = true ↔ anyB (fun q => canP adj G n (4 * o (q / 4) + q % 4) && F (4 * o (q / 4) + q % 4)) (4 * m) = true := by
    rw [anyB_iff, anyB_iff]
    constructor
    · rintro ⟨m', h1, h2⟩
      obtain ⟨h3, _⟩ := Bool.and_eq_true_iff.mp h2
      obtain ⟨h4, _⟩ := Bool.and_eq_true_iff.mp h3
      obtain ⟨k, hk, e⟩ := hall (m' / 4) (by omega) (of_decide_eq_true h4)
      refine ⟨4 * k + m' % 4, by omega, ?_⟩
      rw [(dm4 k (m' % 4) (by omega)).1, (dm4 k (m' % 4) (by omega)).2, e, show 4 * (m' / 4) + m' % 4 = m' by omega]
      exact h2
    · rintro ⟨q, h1, h2⟩
      have := ho (q / 4) (by omega)
      exact ⟨4 * o (q / 4) + q % 4, by omega, h2⟩
  cases h1 : anyB (fun m' => canP adj G n m' && F m') (4 * n) with
  | true => exact (key.mp h1).symm
  | false =>
    cases h2 : anyB (fun q => canP adj G n (4 * o (q / 4) + q % 4) && F (4 * o (q / 4) + q % 4)) (4 * m) with
    | false => rfl
    | true => rw [key.mpr h2] at h1; cases h1
variable {S : PS} {I : Nat → Nat → Int}
def gmF (I J : Nat → Nat → Int) : Prop := (∀ a, a ≠ 178 → a ≠ 183 → J a = I a) ∧ ∀ i, i < 18 → J 178 i = I 178 i
theorem gm_M {d : Nat} (hl0 : LyX12 S) (hA : mAd I n adj) (hO : svO I n m o) (hm4 : m ≤ 4) (hg : ∀ i, i < n → gR I 18 i = g i) (hok : rOk g n) (hop : ∀ k, k < m → g (o k) = -1) (hall : ∀ i, i < n → g i = -1 → ∃ k, k < m ∧ o k = i) : ∃ J, Ca (d + 4) mX12_laysGame [vR (some (22, 0, 156))] (I, S) (.inl none) (J, S) ∧ gmF I J ∧ (∀ i, i < n → (∀ k, k < m → o k ≠ i) → gR J 18 i = g i) ∧ ∀ x, 0 ≤ x → x < pwI 5 m → J 183 x.toNat = gmV adj n m g o x := by
  have h15 := hA.1
  have hn := hA.2.1
  have h44 := hO.1
  have hinc := hO.2.2.2
  have hon : ∀ k, k < m → o k < n := fun k hk => (hO.2.2.1 k hk).2
  have hpw := pw5 (k := m) hm4
  have loop : ∀ (k : Nat) (J : Nat → Nat → Int), (k : Int) ≤ pwI 5 m → gmF I J → (∀ i, i < n → (∀ k, k < m → o k ≠ i) → gR J 18 i = g i) → (∀ x : Int, (k : Int) ≤ x → x < pwI 5 m → J 183 x.toNat = gmV adj n m g o x) → ∃ J', L_X12_laysGame_11 d 156 ((k : Int) - 1) J S (J', S) ∧ gmF I J' ∧ (∀ i, i < n → (∀ k, k < m → o k ≠ i) → gR J' 18 i = g i) ∧ ∀ x : Int, 0 ≤ x → x < pwI 5 m → J' 183 x.toNat = gmV adj n m g o x := by
    intro k
    induction k with
    | zero =>
      intro J _ hF hrow hw
      exact ⟨J, w_X12_laysGame_11 hl0 (fun h => absurd h (by omega)), hF, hrow, fun x h1 h2 => hw x (by omega) h2⟩
    | succ k ih =>
      intro J hk hF hrow hw
      obtain ⟨x, hx⟩ : ∃ x : Int, x = (k : Int) := ⟨_, rfl⟩
      have hxk : ((k + 1 : Nat) : Int) - 1 = x := by omega
      rw [hxk]
      have hx0 : 0 ≤ x ∧ x < pwI 5 m := by omega
      obtain ⟨G, hG⟩ : ∃ G, G = gmG g o x m := ⟨_, rfl⟩
      obtain ⟨N, hN⟩ : ∃ N, N = gmN x m := ⟨_, rfl⟩
      have hNb := gmN_in x m
      rw [← hN] at hNb
      have hGat : ∀ j, j < m → G (o j) = fgI x j % 5 - 1 := fun j hj => by rw [hG]; exact gmG_at hinc m hj (Nat.le_refl m)
      have hGout : ∀ i, (∀ k, k < m → o k ≠ i) → G i = g i := fun i hi => by rw [hG]; exact gmG_out m hi
      have hGall : ∀ i, i < n → G i = -1 → ∃ k, k < m ∧ o k = i := fun i hi he => by
        by_cases q : ∃ k, k < m ∧ o k = i
        · exact q
        · have hno : ∀ j, j < m → o j ≠ i := fun j hj w => q ⟨j, hj, w⟩
          rw [hGout i hno] at he
          exact hall i hi he
      have hGok : rOk G n := fun i hi => by
        by_cases q : ∃ k, k < m ∧ o k = i
        · obtain ⟨j, hj, rfl⟩ := q
          have := fg_in x j
          rw [hGat j hj]; omega
        · have hno : ∀ j, j < m → o j ≠ i := fun j hj w => q ⟨j, hj, w⟩
          rw [hGout i hno]; exact hok i hi
      obtain ⟨C, hC⟩ : ∃ C : Nat → Bool, C = fun q => canP adj G n (4 * o (q / 4) + q % 4) := ⟨_, rfl⟩
      obtain ⟨W, hW⟩ : ∃ W : Nat → Bool, W = fun q => wnS adj n ((m : Int) - N - 1).toNat (up1 G (o (q / 4)) ((q % 4 : Nat) : Int)) (!decide (N % 2 = 0)) := ⟨_, rfl⟩
      have hCd : ∀ dd c, dd < m → c < 4 → (C (4 * dd + c) = true ↔ G (o dd) = -1 ∧ frP adj G n (o dd) (c : Int) = true) := fun dd c hdd hc => by
        rw [hC]
        show canP adj G n (4 * o ((4 * dd + c) / 4) + (4 * dd + c) % 4) = true ↔ _
        rw [(dm4 dd c hc).1, (dm4 dd c hc).2]
        unfold canP
        rw [(dm4 (o dd) c hc).1, (dm4 (o dd) c hc).2, Bool.and_eq_true, decide_eq_true_iff]
      -- what is laid down for the code
      have fin : ∀ one two mov : Int, (one = if (N = (m : Int)) ∨ anyB (fun q => C q && W q) (4 * m) = true then 1 else 0) → (two = if anyB (fun q => C q && !W q) (4 * m) = true then 1 else 0) → (mov = if anyB C (4 * m) = true then 1 else 0) → (mov ≠ 0 → ¬(N % 2 = 0) → (if two = 0 then (1 : Int) else 2) = gmV adj n m g o x) ∧ (mov ≠ 0 → N % 2 = 0 → (if one = 0 then (2 : Int) else 1) = gmV adj n m g o x) ∧ (mov = 0 → (if one = 0 then (2 : Int) else 1) = gmV adj n m g o x) := by
        intro one two mov h1 h2 h3
        have hopen := fun F => any_open (adj := adj) (F := F) hon hGall
        have hCn : N = (m : Int) → anyB C (4 * m) = false := fun hNm => by
          cases q : anyB C (4 * m) with
          | false => rfl
          | true =>
            obtain ⟨q', w1, w2⟩ := anyB_iff.mp q
            have w3 := (hCd (q' / 4) (q' % 4) (by omega) (by omega)).mp (by rw [show 4 * (q' / 4) + q' % 4 = q' by omega]; exact w2)
            have w4 := hGat (q' / 4) (by omega)
            have w5 : fgI x (q' / 4) % 5 = 0 := by omega
            have hlt : ∀ k, k ≤ m → q' / 4 < k → gmN x k ≤ (k : Int) - 1 := by
              intro k
              induction k with
              | zero => intro _ h; exact absurd h (by omega)
              | succ k ihk =>
                intro hk1 hk2
                have b1 := gmN_in x k
                show gmN x k + (if 0 < fgI x k % 5 then 1 else 0) ≤ _
                by_cases e : q' / 4 = k
                · rw [e] at w5; rw [w5, if_neg (by decide)]; omega
                · have := ihk (by omega) (by omega)
                  split <;> omega
            have := hlt m (Nat.le_refl m) (by omega)
            omega
        have hval : gmV adj n m g o x = if wnS adj n ((m : Int) - N).toNat G (decide (N % 2 = 0)) = true then 1 else 2 := by unfold gmV gmW; rw [← hN, ← hG]
        by_cases hNm : N = (m : Int)
        · have hc0 := hCn hNm
          rw [hc0] at h3
          have h3 : mov = 0 := h3
          have hv1 : gmV adj n m g o x = 1 := by rw [hval, hNm, show ((m : Int) - (m : Int)).toNat = 0 by omega]; rfl
          refine ⟨fun h => absurd h3 h, fun h => absurd h3 h, fun _ => ?_⟩
          rw [hv1, h1, if_pos (Or.inl hNm)]; rfl
        · have hk1 : ((m : Int) - N).toNat = ((m : Int) - N - 1).toNat + 1 := by omega
          have hone : one = if anyB (fun q => C q && W q) (4 * m) = true then 1 else 0 := by
            rw [h1]; exact ite_iff ⟨fun q => q.elim (fun w => absurd w hNm) id, Or.inr⟩
          have hany : ∀ F : Nat → Bool, (∀ q, q < 4 * m → F (4 * o (q / 4) + q % 4) = W q) → anyB (fun m' => canP adj G n m' && F m') (4 * n) = anyB (fun q => C q && W q) (4 * m) := fun F hF => by
            rw [hopen F]
            exact anyB_congr (fun q hq => by rw [hF q hq, hC])
          have hWt : ∀ t, (!decide (N % 2 = 0)) = t → ∀ q, q < 4 * m → wnS adj n ((m : Int) - N - 1).toNat (up1 G ((4 * o (q / 4) + q % 4) / 4) (((4 * o (q / 4) + q % 4) % 4 : Nat) : Int)) t = W q := fun t ht q _ => by
            rw [hW, (dm4 (o (q / 4)) (q % 4) (by omega)).1, (dm4 (o (q / 4)) (q % 4) (by omega)).2, ht]
          by_cases hp : N % 2 = 0
          · have hv : gmV adj n m g o x = if anyB (fun q => C q && W q) (4 * m) = true then 1 else 2 := by
              rw [hval, decide_eq_true hp, hk1]
              show (if anyB (fun m' => canP adj G n m' && wnS adj n ((m : Int) - N - 1).toNat (up1 G (m' / 4) ((m' % 4 : Nat) : Int)) false) (4 * n) = true then (1 : Int) else 2) = _
              rw [hany (fun m' => wnS adj n ((m : Int) - N - 1).toNat (up1 G (m' / 4) ((m' % 4 : Nat) : Int)) false) (hWt false (by rw [decide_eq_true hp]; rfl))]
            have e1 : (if one = 0 then (2 : Int) else 1) = gmV adj n m g o x := by
              rw [hone, hv]
              cases anyB (fun q => C q && W q) (4 * m) <;> rfl
            exact ⟨fun _ h => absurd hp h, fun _ _ => e1, fun _ => e1⟩
          · have hv : gmV adj n m g o x = if (anyB C (4 * m) && !anyB (fun q => C q && !W q) (4 * m)) = true then 1 else 2 := by
              rw [hval, decide_eq_false hp, hk1]
              show (if (anyB (canP adj G n) (4 * n) && allB (fun m' => !(canP adj G n m') || wnS adj n ((m : Int) - N - 1).toNat (up1 G (m' / 4) ((m' % 4 : Nat) : Int)) true) (4 * n)) = true then (1 : Int) else 2) = _
              have a1 : anyB (canP adj G n) (4 * n) = anyB C (4 * m) := by
                have := hopen (fun _ => true)
                have b1 : anyB (fun m' => canP adj G n m' && true) (4 * n) = anyB (canP adj G n) (4 * n) := anyB_congr (fun q _ => Bool.and_true _)
                rw [b1] at this
                rw [this]
                exact anyB_congr (fun q _ => by rw [hC]; exact Bool.and_true _)
              have a2 : allB (fun m' => !(canP adj G n m') || wnS adj n ((m : Int) - N - 1).toNat (up1 G (m' / 4) ((m' % 4 : Nat) : Int)) true) (4 * n) = !anyB (fun q => C q && !W q) (4 * m) := by
                have := hopen (fun m' => !wnS adj n ((m : Int) - N - 1).toNat (up1 G (m' / 4) ((m' % 4 : Nat) : Int)) true)
                have b1 : anyB (fun q => canP adj G n (4 * o (q / 4) + q % 4) && !wnS adj n ((m : Int) - N - 1).toNat (up1 G ((4 * o (q / 4) + q % 4) / 4) (((4 * o (q / 4) + q % 4) % 4 : Nat) : Int)) true) (4 * m) = anyB (fun q => C q && !W q) (4 * m) := anyB_congr (fun q hq => by rw [hWt true (by rw [decide_eq_false hp]; rfl) q hq, hC])
                rw [b1] at this
                rw [← this]
                have b2 : ∀ n', allB (fun m' => !(canP adj G n m') || wnS adj n ((m : Int) - N - 1).toNat (up1 G (m' / 4) ((m' % 4 : Nat) : Int)) true) n' = !anyB (fun m' => canP adj G n m' && !wnS adj n ((m : Int) - N - 1).toNat (up1 G (m' / 4) ((m' % 4 : Nat) : Int)) true) n' := by
                  intro n'
                  induction n' with
                  | zero => rfl
                  | succ n' ihn =>
                    show (allB _ n' && _) = !(anyB _ n' || _)
                    rw [ihn, Bool.not_or, Bool.not_and, Bool.not_not]
                exact b2 (4 * n)
              rw [a1, a2]
            refine ⟨fun hmv _ => ?_, fun _ h => absurd h hp, fun hmv => ?_⟩
            · rw [h3] at hmv
              rw [hv, b2t hmv, h2, Bool.true_and]
              cases anyB (fun q => C q && !W q) (4 * m) <;> rfl
            · rw [h3] at hmv
              have hc0 := Bool.eq_false_iff.mpr (b2f hmv)
              rw [hv, hc0, Bool.false_and]
              have : anyB (fun q => C q && W q) (4 * m) = false := by
                cases q : anyB (fun q => C q && W q) (4 * m) with
                | false => rfl
                | true =>
                  obtain ⟨q', w1, w2⟩ := anyB_iff.mp q
                  rw [anyB_yes w1 (Bool.and_eq_true_iff.mp w2).1] at hc0
                  cases hc0
              rw [hone, this]; rfl
      -- moves are gone through
      have go108 : ∀ (r dd : Nat) (one two mov : Int) (J : Nat → Nat → Int), dd + r = m → gmF I J → (∀ i, i < n → gR J 18 i = G i) → (∀ y : Int, x < y → y < pwI 5 m → J 183 y.toNat = gmV adj n m g o y) → (one = if (N = (m : Int)) ∨ anyB (fun q => C q && W q) (4 * dd) = true then 1 else 0) → (two = if anyB (fun q => C q && !W q) (4 * dd) = true then 1 else 0) → (mov = if anyB C (4 * dd) = true then 1 else 0) → ∃ J', L_X12_laysGame_108 d 156 x N (if N % 2 = 0 then 1 else 0) one two mov (dd : Int) J S (J', S) ∧ gmF I J' ∧ (∀ i, i < n → (∀ k, k < m → o k ≠ i) → gR J' 18 i = g i) ∧ ∀ y : Int, 0 ≤ y → y < pwI 5 m → J' 183 y.toNat = gmV adj n m g o y := by
        intro r
        induction r with
        | zero =>
          intro dd one two mov J hr hFJ hrJ hwJ h1 h2 h3
          have hdm : dd = m := by omega
          subst hdm
          have h44J : J 156 44 = (dd : Int) := by rw [hFJ.1 156 (by decide) (by decide)]; exact h44
          obtain ⟨f1, f2, f3⟩ := fin one two mov h1 h2 h3
          have tail : ∀ w : Int, w = gmV adj n dd g o x → ∃ J', L_X12_laysGame_11 d 156 (x - 1) (up2 J 183 (x.toNat) w) S (J', S) ∧ gmF I J' ∧ (∀ i, i < n → (∀ k, k < dd → o k ≠ i) → gR J' 18 i = g i) ∧ ∀ y : Int, 0 ≤ y → y < pwI 5 dd → J' 183 y.toNat = gmV adj n dd g o y := by
            intro w hw1
            rw [hx]
            refine ih _ (by omega) ⟨fun a q1 q2 => by funext j; rw [up2_a _ q2, hFJ.1 a q1 q2], fun i hi => by rw [up2_a _ (by decide)]; exact hFJ.2 i hi⟩ (fun i hi hno => ?_) (fun y hy1 hy2 => ?_)
            · rw [gR_18, up2_a _ (by decide), ← gR_18 J i, hrJ i hi]; exact hGout i hno
            · by_cases e : y = x
              · rw [e, ← hx, up2_same, hw1]
              · rw [up2_k _ (by omega)]; exact hwJ y (by omega) hy2
          by_cases hmv : mov = 0
          · obtain ⟨J', hL, rest⟩ := tail _ (f3 hmv)
            exact ⟨J', w_X12_laysGame_108 hl0 (fun _ h => absurd hmv h) (fun _ h => absurd hmv h) (fun _ _ => hL) (fun h => absurd h (by omega)), rest⟩
          · by_cases hp : N % 2 = 0
            · obtain ⟨J', hL, rest⟩ := tail _ (f2 hmv hp)
              exact ⟨J', w_X12_laysGame_108 hl0 (fun _ _ h => absurd h (by rw [if_pos hp]; decide)) (fun _ _ _ => hL) (fun _ h => absurd h hmv) (fun h => absurd h (by omega)), rest⟩
            · obtain ⟨J', hL, rest⟩ := tail _ (f1 hmv hp)
              exact ⟨J', w_X12_laysGame_108 hl0 (fun _ _ _ => hL) (fun _ _ h => absurd (by rw [if_neg hp]) h) (fun _ h => absurd h hmv) (fun h => absurd h (by omega)), rest⟩
        | succ r ihr =>
          intro dd one two mov J hr hFJ hrJ hwJ h1 h2 h3
          have hdd : dd < m := by omega
          have h44J : J 156 44 = (m : Int) := by rw [hFJ.1 156 (by decide) (by decide)]; exact h44
          have hA1 : mAd J n adj := mAd_of hA (by rw [hFJ.1 156 (by decide) (by decide)]) (hFJ.1 161 (by decide) (by decide))
          have hod := hon dd hdd
          have ho : J 180 (dd : Int).toNat = (o dd : Int) := by rw [hFJ.1 180 (by decide) (by decide), Int.toNat_natCast]; exact (hO.2.2.1 dd hdd).1
          have hdeg : 0 ≤ J 161 (10 * (J 180 (dd : Int).toNat)).toNat ∧ J 161 (10 * (J 180 (dd : Int).toNat)).toNat ≤ 9 := by
            rw [ho]; have := mAd_deg hA1 hod; omega
          have hnb : ∀ k : Nat, (k : Int) < J 161 (10 * (J 180 (dd : Int).toNat)).toNat → 0 ≤ J 161 (((10 * (J 180 (dd : Int).toNat)) + 1) + (k : Int)).toNat ∧ J 161 (((10 * (J 180 (dd : Int).toNat)) + 1) + (k : Int)).toNat < 12 := fun k hk => by
            rw [ho] at hk ⊢; have := mAd_nb hA1 hod hk; omega
          have hokJ : rOk (gR J 18) n := fun i hi => by rw [hrJ i hi]; exact hGok i hi
          have inner : ∀ (q c : Nat) (one two mov : Int), q + c = 4 → (one = if (N = (m : Int)) ∨ anyB (fun q => C q && W q) (4 * dd + c) = true then 1 else 0) → (two = if anyB (fun q => C q && !W q) (4 * dd + c) = true then 1 else 0) → (mov = if anyB C (4 * dd + c) = true then 1 else 0) → ∃ J', L_X12_laysGame_120 d 156 x N (if N % 2 = 0 then 1 else 0) one two mov (dd : Int) (c : Int) J S (J', S) ∧ gmF I J' ∧ (∀ i, i < n → (∀ k, k < m → o k ≠ i) → gR J' 18 i = g i) ∧ ∀ y : Int, 0 ≤ y → y < pwI 5 m → J' 183 y.toNat = gmV adj n m g o y := by
            intro q
            induction q with
            | zero =>
              intro c one two mov hq h1 h2 h3
              have hc4 : 4 * dd + c = 4 * (dd + 1) := by omega
              rw [hc4] at h1 h2 h3
              obtain ⟨J', hL, rest⟩ := ihr (dd + 1) one two mov J (by omega) hFJ hrJ hwJ h1 h2 h3
              exact ⟨J', w_X12_laysGame_120 hl0 (fun _ => hL) (fun h => absurd h (by omega)) (fun h => absurd h (by omega)) (fun h => absurd h (by omega)) (v8 := fun h => absurd h (by omega)) (v13 := fun h => absurd h (by omega)) (v12 := fun h => absurd h (by omega)) (v11 := fun h => absurd h (by omega)), rest⟩
            | succ q ihq =>
              intro c one two mov hq h1 h2 h3
              have hcond : ((J 178 (18 + (J 180 (dd : Int).toNat)).toNat = (-1)) ∧ (((0 ≤ (c : Int)) ∧ ((c : Int) ≤ 3)) ∧ (p_and (p_shr (frF J 18 (J 180 (dd : Int).toNat) (J 161 (10 * (J 180 (dd : Int).toNat)).toNat).toNat) (c : Int)) 1 = 1))) ↔ C (4 * dd + c) = true := by
                rw [hCd dd c hdd (by omega), ho, frF_tst hA1 hod hokJ (by omega), frP_congr hrJ]
                have e : J 178 ((18 : Int) + (o dd : Int)).toNat = G (o dd) := hrJ (o dd) hod
                rw [e]
                exact ⟨fun w => ⟨w.1, w.2.2⟩, fun w => ⟨w.1, by omega, w.2⟩⟩
              have s1 : anyB (fun q => C q && W q) (4 * dd + (c + 1)) = (anyB (fun q => C q && W q) (4 * dd + c) || (C (4 * dd + c) && W (4 * dd + c))) := rfl
              have s2 : anyB (fun q => C q && !W q) (4 * dd + (c + 1)) = (anyB (fun q => C q && !W q) (4 * dd + c) || (C (4 * dd + c) && !W (4 * dd + c))) := rfl
              have s3 : anyB C (4 * dd + (c + 1)) = (anyB C (4 * dd + c) || C (4 * dd + c)) := rfl
              by_cases hcc : C (4 * dd + c) = true
              · have hGd := ((hCd dd c hdd (by omega)).mp hcc).1
                have hf0 : fgI x dd % 5 = 0 := by have := hGat dd hdd; omega
                have hbd := fg_bd hx0 hm4 hdd (show c < 4 by omega) hf0
                obtain ⟨st1, st2⟩ := gmG_step (g := g) (c := c) hx0.1 hinc hm4 hdd (by omega) hf0
                have hwin : J 183 (x + (((c : Int) + 1) * (pwI 5 (dd : Int).toNat))).toNat = if W (4 * dd + c) = true then 1 else 2 := by
                  rw [Int.toNat_natCast, hwJ _ hbd.2.2 hbd.2.1]
                  unfold gmV gmW
                  rw [st2, ← hN, show ((m : Int) - (N + 1)).toNat = ((m : Int) - N - 1).toNat by omega]
                  have hpar : decide ((N + 1) % 2 = 0) = !decide (N % 2 = 0) := by
                    by_cases q : N % 2 = 0
                    · rw [decide_eq_true q, decide_eq_false (by omega)]; rfl
                    · rw [decide_eq_false q, decide_eq_true (by omega)]; rfl
                  rw [hpar, wnS_congr adj n _ _ (up1 G (o dd) (c : Int)) _ (fun i _ => by rw [st1 i, hG])]
                  rw [hW]
                  show _ = if wnS adj n ((m : Int) - N - 1).toNat (up1 G (o ((4 * dd + c) / 4)) (((4 * dd + c) % 4 : Nat) : Int)) (!decide (N % 2 = 0)) = true then (1 : Int) else 2
                  rw [(dm4 dd c (by omega)).1, (dm4 dd c (by omega)).2]
                have hpwd := pw5 (k := dd) (by omega)
                have hpc : 0 ≤ ((c : Int) + 1) * (pwI 5 (dd : Int).toNat) ∧ ((c : Int) + 1) * (pwI 5 (dd : Int).toNat) ≤ 4 * 625 := by
                  rw [Int.toNat_natCast]
                  have h1 : ((c : Int) + 1) * pwI 5 dd ≤ 4 * 625 := by
                    have q1 : ((c : Int) + 1) * pwI 5 dd ≤ 4 * pwI 5 dd := Int.mul_le_mul_of_nonneg_right (by omega) (by omega)
                    omega
                  have h2 : 0 ≤ ((c : Int) + 1) * pwI 5 dd := Int.mul_nonneg (by omega) (by omega)
                  omega
                have hidx : 0 ≤ x + (((c : Int) + 1) * (pwI 5 (dd : Int).toNat)) ∧ x + (((c : Int) + 1) * (pwI 5 (dd : Int).toNat)) < 625 := by
                  rw [Int.toNat_natCast]
                  omega
                obtain ⟨J', hL, rest⟩ := ihq (c + 1) (if (one ≠ 0) ∨ (J 183 (x + (((c : Int) + 1) * (pwI 5 (dd : Int).toNat))).toNat = 1) then (1 : Int) else 0) (if (two ≠ 0) ∨ (J 183 (x + (((c : Int) + 1) * (pwI 5 (dd : Int).toNat))).toNat = 2) then (1 : Int) else 0) 1 (by omega) (by
                  refine ite_iff ?_
                  rw [h1, hwin, s1, hcc, Bool.true_and, Bool.or_eq_true]
                  constructor
                  · rintro (w | w)
                    · rcases b2t w with w | w
                      · exact Or.inl w
                      · exact Or.inr (Or.inl w)
                    · cases hWc : W (4 * dd + c) with
                      | true => exact Or.inr (Or.inr rfl)
                      | false => rw [hWc] at w; exact absurd w (by decide)
                  · rintro (w | w | w)
                    · exact Or.inl (by rw [if_pos (Or.inl w)]; decide)
                    · exact Or.inl (by rw [if_pos (Or.inr w)]; decide)
                    · exact Or.inr (if_pos w)) (by
                  refine ite_iff ?_
                  rw [h2, hwin, s2, hcc, Bool.true_and, Bool.or_eq_true]
                  constructor
                  · rintro (w | w)
                    · exact Or.inl (b2t w)
                    · cases hWc : W (4 * dd + c) with
                      | false => exact Or.inr rfl
                      | true => rw [hWc] at w; exact absurd w (by decide)
                  · rintro (w | w)
                    · exact Or.inl (by rw [if_pos w]; decide)
                    · have : W (4 * dd + c) = false := by cases hWc : W (4 * dd + c) with
                        | false => rfl
                        | true => rw [hWc] at w; cases w
                      exact Or.inr (by rw [this]; rfl)) (by rw [s3, hcc, Bool.or_true, if_pos rfl])
                exact ⟨J', w_X12_laysGame_120 hl0 (fun h => absurd h (by omega)) (fun _ _ => hL) (fun _ _ => hL) (fun _ h => absurd (hcond.mpr hcc) h) (v8 := fun _ _ _ => hnb) (v13 := fun _ _ => by omega) (v12 := fun _ _ => by omega) (v11 := fun _ _ => by omega), rest⟩
              · have hcf := Bool.eq_false_iff.mpr hcc
                obtain ⟨J', hL, rest⟩ := ihq (c + 1) one two mov (by omega) (by rw [s1, hcf, Bool.false_and, Bool.or_false]; exact h1) (by rw [s2, hcf, Bool.false_and, Bool.or_false]; exact h2) (by rw [s3, hcf, Bool.or_false]; exact h3)
                exact ⟨J', w_X12_laysGame_120 hl0 (fun h => absurd h (by omega)) (fun _ h => absurd (hcond.mp h) hcc) (fun _ h => absurd (hcond.mp h) hcc) (fun _ _ => hL) (v8 := fun _ _ _ => hnb) (v13 := fun _ h => absurd (hcond.mp h) hcc) (v12 := fun _ h => absurd (hcond.mp h) hcc) (v11 := fun _ h => absurd (hcond.mp h) hcc), rest⟩
          obtain ⟨J', hL, rest⟩ := inner 4 0 one two mov rfl h1 h2 h3
          exact ⟨J', w_X12_laysGame_108 hl0 (fun h => absurd h (by omega)) (fun h => absurd h (by omega)) (fun h => absurd h (by omega)) (fun _ => hL), rest⟩
      -- colours by the code
      have go19 : ∀ (r dd : Nat) (J : Nat → Nat → Int), dd + r = m → gmF I J → (∀ i, i < n → (∀ k, dd ≤ k → k < m → o k ≠ i) → gR J 18 i = gmG g o x dd i) → (∀ y : Int, x < y → y < pwI 5 m → J 183 y.toNat = gmV adj n m g o y) → ∃ J', L_X12_laysGame_19 d 156 x (gmN x dd) (dd : Int) J S (J', S) ∧ gmF I J' ∧ (∀ i, i < n → (∀ k, k < m → o k ≠ i) → gR J' 18 i = g i) ∧ ∀ y : Int, 0 ≤ y → y < pwI 5 m → J' 183 y.toNat = gmV adj n m g o y := by
        intro r
        induction r with
        | zero =>
          intro dd J hr hFJ hrJ hwJ
          have hdm : dd = m := by omega
          subst hdm
          have h44J : J 156 44 = (dd : Int) := by rw [hFJ.1 156 (by decide) (by decide)]; exact h44
          obtain ⟨J', hL, rest⟩ := go108 dd 0 (if N = (dd : Int) then 1 else 0) 0 0 J (by omega) hFJ (fun i hi => by rw [hrJ i hi (fun k h1 h2 => absurd h1 (by omega)), hG]) hwJ (ite_iff ⟨Or.inl, fun w => w.elim id (fun w => by cases w)⟩) rfl rfl
          rw [← hN]
          refine ⟨J', w_X12_laysGame_19 hl0 (fun _ => ?_) (fun h => absurd h (by omega)) (v1 := fun _ => by omega), rest⟩
          rw [h44J]
          exact hL
        | succ r ihr =>
          intro dd J hr hFJ hrJ hwJ
          have hdd : dd < m := by omega
          have h44J : J 156 44 = (m : Int) := by rw [hFJ.1 156 (by decide) (by decide)]; exact h44
          have hod := hon dd hdd
          have ho : J 180 (dd : Int).toNat = (o dd : Int) := by rw [hFJ.1 180 (by decide) (by decide), Int.toNat_natCast]; exact (hO.2.2.1 dd hdd).1
          have hfi := fg_in x dd
          have hNd := gmN_in x dd
          have hpx := pw5 (k := m) hm4
          obtain ⟨J', hL, rest⟩ := ihr (dd + 1) (up2 J 178 ((18 + (J 180 (dd : Int).toNat)).toNat) ((fgI x (dd : Int).toNat % 5) - 1)) (by omega) ⟨fun a q1 q2 => by funext j; rw [up2_a _ q1, hFJ.1 a q1 q2], fun i hi => by rw [ho, up2_k _ (by omega)]; exact hFJ.2 i hi⟩ (fun i hi hno => by
            rw [gR_18, ho, show ((18 : Int) + (o dd : Int)).toNat = 18 + o dd by omega, Int.toNat_natCast]
            show _ = up1 (gmG g o x dd) (o dd) (fgI x dd % 5 - 1) i
            by_cases e : i = o dd
            · rw [e, up2_same, up1_same]
            · rw [up2_k _ (by omega), up1_o _ e, ← gR_18 J i]
              refine hrJ i hi (fun k w1 w2 => ?_)
              by_cases ek : k = dd
              · rw [ek]; exact fun w => e w.symm
              · exact hno k (by omega) w2) (fun y w1 w2 => by rw [up2_a _ (by decide)]; exact hwJ y w1 w2)
          have hstep : gmN x (dd + 1) = gmN x dd + (if 0 < fgI x dd % 5 then 1 else 0) := rfl
          rw [hstep] at hL
          exact ⟨J', w_X12_laysGame_19 hl0 (fun h => absurd h (by omega)) (fun _ => hL) (v2 := fun _ => by omega), rest⟩
      obtain ⟨J', hL, rest⟩ := go19 m 0 J (by omega) hF (fun i hi hno => hrow i hi (fun k hk => hno k (by omega) hk)) (fun y w1 w2 => hw y (by omega) w2)
      exact ⟨J', w_X12_laysGame_11 hl0 (fun _ => hL), rest⟩
  obtain ⟨J', hL, rest⟩ := loop (pwI 5 m).toNat I (by omega) ⟨fun _ _ _ => rfl, fun _ _ => rfl⟩ (fun i hi _ => hg i hi) (fun x w1 w2 => absurd w1 (by omega))
  rw [show (((pwI 5 m).toNat : Nat) : Int) = pwI 5 m by omega] at hL
  refine ⟨J', w_X12_laysGame_0 hl0 ?_ (v1 := by omega) (v2 := by rw [h44, Int.toNat_natCast]; omega), rest⟩
  rw [h44, Int.toNat_natCast]
  exact hL
end
end
