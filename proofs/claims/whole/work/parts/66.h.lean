noncomputable section
theorem upTo_down {I : Nat → Nat → Int} {a : Nat} {f g : Nat → Int} {n k i : Nat} {v : Int} (hk : k < n) (hi : i = n - 1 - k) (hv : v = g (n - 1 - k)) : up2 (up1 I a (upTo f g (n - k) k)) a i v = up1 I a (upTo f g (n - (k + 1)) (k + 1)) := by
  subst hi; subst hv
  rw [up2_up1, up1_up1, up1_same]
  congr 1
  funext j
  unfold up1 upTo
  by_cases h1 : j = n - 1 - k
  · rw [if_pos h1, if_pos (by omega), h1]
  · rw [if_neg h1]
    by_cases h2 : n - k ≤ j ∧ j < n - k + k
    · rw [if_pos h2, if_pos (by omega)]
    · rw [if_neg h2, if_neg (by omega)]
/-- an edge of a piece -/
def lk (f : Nat → Int) (a b : Int) : Nat → Int := up1 (up1 f a.toNat (p_or (f a.toNat) (p_shl 1 b))) b.toNat (p_or ((up1 f a.toNat (p_or (f a.toNat) (p_shl 1 b))) b.toNat) (p_shl 1 a))
theorem lk_heap (I : Nat → Nat → Int) (A : Nat) (a b : Int) : up2 (up2 I A a.toNat (p_or (I A a.toNat) (p_shl 1 b))) A b.toNat (p_or ((up2 I A a.toNat (p_or (I A a.toNat) (p_shl 1 b))) A b.toNat) (p_shl 1 a)) = up1 I A (lk (I A) a b) := by
  rw [up2_up1 I, up2_up1, up1_up1, up1_same]
  rfl
/-- a vertex is linked with places of the ring from one on -/
def lkP (f : Nat → Int) (v at0 r : Int) : Nat → Nat → Int
  | 0 => f
  | k + 1 => lk (lkP f v at0 r k) v ((at0 + (k : Int)) % r)
def dgI (x : Int) : Nat → Int
  | 0 => x
  | k + 1 => dgI x k / 10
theorem dgI_le {x : Int} (h : 0 ≤ x) : ∀ n : Nat, 0 ≤ dgI x n ∧ dgI x n ≤ x
  | 0 => ⟨h, Int.le_refl x⟩
  | n + 1 => by
    have := dgI_le h n
    show 0 ≤ dgI x n / 10 ∧ dgI x n / 10 ≤ x
    omega
section
variable {d : Nat} {I : Nat → Nat → Int} {S : PS}
def ly1 (I : Nat → Nat → Int) (v sh : Int) : Nat → Nat → Int := up2 (up2 I 157 ((I 156 2)).toNat (p_and (p_shr v sh) 255)) 156 2 ((I 156 2) + 1)
def lyI (I : Nat → Nat → Int) (v : Int) : Nat → Nat → Int := ly1 (ly1 (ly1 (ly1 I v 24) v 16) v 8) v 0
theorem ly1_t (I : Nat → Nat → Int) (v sh : Int) : ly1 I v sh 156 2 = I 156 2 + 1 := rfl
theorem c_X12_lays {x1 : Int} (hl0 : LyX12 S) (ht : 0 ≤ (I 156 2) ∧ (I 156 2) ≤ 696) : Ca d mX12_lays [vR (some (22, 0, 156)), vI x1] (I, S) (.inl none) (lyI I x1, S) := by
  refine w_X12_lays_0 hl0 ?_
  have step : ∀ (J : Nat → Nat → Int) (sh : Int), 0 ≤ sh ∧ sh ≤ 24 → 0 ≤ J 156 2 ∧ J 156 2 < 700 → L_X12_lays_3 d 156 x1 (sh - 8) (ly1 J x1 sh) S (lyI I x1, S) → L_X12_lays_3 d 156 x1 sh J S (lyI I x1, S) := by
    intro J sh hs hj k
    exact w_X12_lays_3 hl0 (fun _ => k) (fun h => absurd h (by omega))
  refine step I 24 (by omega) (by omega) ?_
  refine step _ 16 (by omega) (by rw [ly1_t]; omega) ?_
  refine step _ 8 (by omega) (by rw [ly1_t, ly1_t]; omega) ?_
  refine step _ 0 (by omega) (by rw [ly1_t, ly1_t, ly1_t]; omega) ?_
  exact w_X12_lays_3 hl0 (fun h => absurd h (by decide)) (v1 := fun h => absurd h (by decide)) (v2 := fun h => absurd h (by decide))
def pb1 (I : Nat → Nat → Int) (v sh : Int) : Nat → Nat → Int := up2 (up2 I 33 (I 31 1).toNat (p_i2b (p_i2b (p_shr v sh)))) 31 1 (I 31 1 + 1)
def pbI (I : Nat → Nat → Int) (v : Int) : Nat → Nat → Int := pb1 (pb1 (pb1 (pb1 I v 24) v 16) v 8) v 0
theorem pb1_t (I : Nat → Nat → Int) (v sh : Int) : pb1 I v sh 31 1 = I 31 1 + 1 := rfl
theorem c_X11_putBytes {x1 : Int} {T U : Nat} (hl0 : LyX11 S T U) (ht : 0 ≤ I 31 1 ∧ I 31 1 ≤ 696) : Ca d mX11_putBytes [vR (some (21, 0, 31)), vI x1] (I, S) (.inl none) (pbI I x1, S) := by
  refine w_X11_putBytes_0 hl0 ?_
  have step : ∀ (J : Nat → Nat → Int) (sh : Int), 0 ≤ sh ∧ sh ≤ 24 → 0 ≤ J 31 1 ∧ J 31 1 < 700 → L_X11_putBytes_3 d 31 x1 (sh - 8) (pb1 J x1 sh) S (pbI I x1, S) → L_X11_putBytes_3 d 31 x1 sh J S (pbI I x1, S) := by
    intro J sh hs hj k
    exact w_X11_putBytes_3 hl0 (fun _ _ => k) (fun h => absurd h (by omega)) (fun _ h => absurd h (by omega))
  refine step I 24 (by omega) (by omega) ?_
  refine step _ 16 (by omega) (by rw [pb1_t]; omega) ?_
  refine step _ 8 (by omega) (by rw [pb1_t, pb1_t]; omega) ?_
  refine step _ 0 (by omega) (by rw [pb1_t, pb1_t, pb1_t]; omega) ?_
  exact w_X11_putBytes_3 hl0 (fun h => absurd h (by decide)) (fun _ => rfl) (fun h => absurd h (by decide)) (v1 := fun h => absurd h (by decide)) (v2 := fun h => absurd h (by decide))
theorem c_X3_linkPlaces {a0 : Nat} {x1 x2 x3 : Int} (hl0 : LyX3 S a0) (hv : 0 ≤ x1 ∧ x1 < 15) (hr : 1 ≤ I a0 3 ∧ I a0 3 ≤ 7) (hf : 0 ≤ x2 ∧ x2 ≤ I a0 3) (hm : x3 ≤ 100) : Ca (d + 1) mX3_linkPlaces [vR (some (14, 0, a0)), vI x1, vI x2, vI x3] (I, S) (.inl none) (up1 I (a0 + 2) (lkP (I (a0 + 2)) x1 x2 (I a0 3) x3.toNat), S) := by
  obtain ⟨r, hr0⟩ : ∃ r, r = I a0 3 := ⟨_, rfl⟩
  rw [← hr0] at hr hf ⊢
  refine w_X3_linkPlaces_0 hl0 ?_
  have main : ∀ (j k : Nat) (x4 : Int) (J : Nat → Nat → Int), (k : Int) + j = max x3 0 → (if x4 < r then x4 else 0) = (x2 + (k : Int)) % r → 0 ≤ x4 ∧ x4 ≤ r → J = up1 I (a0 + 2) (lkP (I (a0 + 2)) x1 x2 r k) → L_X3_linkPlaces_6 d a0 x1 x2 x3 x4 k J S (up1 I (a0 + 2) (lkP (I (a0 + 2)) x1 x2 r x3.toNat), S) := by
    intro j
    induction j with
    | zero =>
      intro k x4 J hk h4 h5 hJ
      have e : J a0 3 = r := by rw [hJ, up1_o _ (by omega)]; exact hr0.symm
      refine w_X3_linkPlaces_6 hl0 (fun h => absurd h (by omega)) (fun _ => ?_)
      rw [hJ, show x3.toNat = k by omega]
    | succ j ih =>
      intro k x4 J hk h4 h5 hJ
      have e : J a0 3 = r := by rw [hJ, up1_o _ (by omega)]; exact hr0.symm
      have h6 : 0 ≤ (x2 + (k : Int)) % r := Int.emod_nonneg _ (by omega)
      have h7 : (x2 + (k : Int)) % r < r := Int.emod_lt_of_pos _ (by omega)
      refine w_X3_linkPlaces_6 hl0 (fun _ => ?_) (fun h => absurd h (by omega)) (v2 := fun _ => by rw [e, h4]; omega) (v3 := fun _ => by rw [e, h4]; omega)
      rw [e, h4]
      refine ih (k + 1) _ _ (by omega) ?_ (by omega) ?_
      · have e3 : (x2 + ((k + 1 : Nat) : Int)) % r = ((x2 + (k : Int)) % r + 1) % r := by
          rw [Int.emod_add_emod, show x2 + ((k + 1 : Nat) : Int) = x2 + (k : Int) + 1 by omega]
        rw [e3]
        by_cases h8 : (x2 + (k : Int)) % r + 1 < r
        · rw [if_pos h8, Int.emod_eq_of_lt (by omega) h8]
        · rw [if_neg h8, show (x2 + (k : Int)) % r + 1 = r by omega, Int.emod_self]
      · rw [lk_heap, hJ, up1_up1, up1_same]
        rfl
  refine main x3.toNat 0 x2 I (by omega) ?_ (by omega) ?_
  · rw [show x2 + ((0 : Nat) : Int) = x2 by omega]
    by_cases h8 : x2 < r
    · rw [if_pos h8, Int.emod_eq_of_lt (by omega) h8]
    · rw [if_neg h8, show x2 = r by omega, Int.emod_self]
  · exact (up1_self I (a0 + 2)).symm
def tdI (I : Nat → Nat → Int) (x n : Int) : Nat → Nat → Int := up1 I 124 (upTo (I 124) (fun j => dgI x (n.toNat - 1 - j) % 10) 0 n.toNat)
theorem c_X1_takeDigits {x1 x2 : Int} (hl0 : LyX1 S) (hx : 0 ≤ x1 ∧ x1 ≤ 2147483647) (hn : 0 ≤ x2 ∧ x2 ≤ 7) : Ca d mX1_takeDigits [vR (some (12, 0, 121)), vI x1, vI x2] (I, S) (.inl none) (tdI I x1 x2, S) := by
  refine w_X1_takeDigits_0 hl0 ?_
  have h := up_loopN (P := fun k => ∀ J, J = up1 I 124 (upTo (I 124) (fun j => dgI x1 (x2.toNat - 1 - j) % 10) (x2.toNat - k) k) → L_X1_takeDigits_7 d 121 x1 x2 (dgI x1 k) (x2 - 1 - (k : Int)) J S (tdI I x1 x2, S)) (n := x2.toNat) ?_ ?_ I (by rw [upTo_zero]; exact (up1_self I 124).symm)
  · rw [show x2 - 1 - ((0 : Nat) : Int) = x2 - 1 by omega] at h; exact h
  · intro J hJ
    refine w_X1_takeDigits_7 hl0 (fun h => absurd h (by omega)) (fun _ => ?_)
    rw [hJ, Nat.sub_self]; rfl
  · intro k hk ih J hJ
    have h1 := dgI_le hx.1 k
    refine w_X1_takeDigits_7 hl0 (fun _ => ?_) (fun h => absurd h (by omega))
    have := ih (up2 J 124 (x2 - 1 - (k : Int)).toNat (dgI x1 k % 10)) (by
      rw [hJ]
      exact upTo_down hk (by omega) (by rw [show x2.toNat - 1 - (x2.toNat - 1 - k) = k by omega]))
    rw [show x2 - 1 - ((k + 1 : Nat) : Int) = x2 - 1 - (k : Int) - 1 by omega] at this
    exact this
theorem p10 {k : Nat} (h : k ≤ 6) : (10 : Int) ^ k ≤ 1000000 := by
  have : k = 0 ∨ k = 1 ∨ k = 2 ∨ k = 3 ∨ k = 4 ∨ k = 5 ∨ k = 6 := by omega
  rcases this with rfl | rfl | rfl | rfl | rfl | rfl | rfl <;> decide
def dsI (f : Nat → Int) : Nat → Int
  | 0 => 0
  | k + 1 => dsI f k * 10 + f k
theorem dsI_le {f : Nat → Int} : ∀ {n : Nat}, (∀ k, k < n → 0 ≤ f k ∧ f k ≤ 9) → 0 ≤ dsI f n ∧ dsI f n + 1 ≤ 10 ^ n
  | 0, _ => ⟨Int.le_refl 0, by show (0 : Int) + 1 ≤ 1; decide⟩
  | n + 1, h => by
    have h1 := dsI_le (n := n) (fun k hk => h k (by omega))
    have h2 := h n (by omega)
    have h3 : (10 : Int) ^ (n + 1) = 10 ^ n * 10 := Int.pow_succ 10 n
    show 0 ≤ dsI f n * 10 + f n ∧ dsI f n * 10 + f n + 1 ≤ 10 ^ (n + 1)
    omega
theorem c_X1_digitsOf {x1 : Int} (hl0 : LyX1 S) (hn : 0 ≤ x1 ∧ x1 ≤ 7) (hf : ∀ k : Nat, (k : Int) < x1 → 0 ≤ I 124 k ∧ I 124 k ≤ 9) : Ca d mX1_digitsOf [vR (some (12, 0, 121)), vI x1] (I, S) (.inl (some (vI (dsI (I 124) x1.toNat)))) (I, S) := by
  refine w_X1_digitsOf_0 hl0 ?_
  refine up_loopN (P := fun k => L_X1_digitsOf_4 d 121 x1 (dsI (I 124) k) k I S (dsI (I 124) x1.toNat) (I, S)) (n := x1.toNat) ?_ ?_
  · exact w_X1_digitsOf_4 hl0 (fun h => absurd h (by omega)) (fun _ => rfl)
  · intro k hk ih
    have h1 := dsI_le (f := I 124) (n := k) (fun j hj => hf j (by omega))
    have h2 := hf k (by omega)
    have h3 := p10 (k := k) (by omega)
    exact w_X1_digitsOf_4 hl0 (fun _ => ih) (fun h => absurd h (by omega)) (v3 := fun _ => by show -2147483648 ≤ _ + I 124 k ∧ _ + I 124 k ≤ 2147483647; omega)
def opS (I : Nat → Nat → Int) : Nat → Int × (Nat → Int)
  | 0 => (0, I 180)
  | k + 1 => if I 178 k = -1 then ((opS I k).1 + 1, up1 (opS I k).2 (opS I k).1.toNat k) else opS I k
theorem opS_le (I : Nat → Nat → Int) : ∀ n : Nat, 0 ≤ (opS I n).1 ∧ (opS I n).1 ≤ n
  | 0 => ⟨Int.le_refl 0, Int.le_refl 0⟩
  | n + 1 => by
    have := opS_le I n
    show 0 ≤ (if _ = _ then _ else _ : Int × (Nat → Int)).1 ∧ (if _ = _ then _ else _ : Int × (Nat → Int)).1 ≤ _
    split
    · dsimp only; omega
    · omega
def loI (I : Nat → Nat → Int) : Nat → Nat → Int := up1 (up2 (trI I) 156 44 (opS I ((I 156 15)).toNat).1) 180 (opS I ((I 156 15)).toNat).2
theorem c_X12_laysOpen (hl0 : LyX12 S) (hs : 0 ≤ (I 156 15) ∧ (I 156 15) ≤ 12) : Ca (d + 1) mX12_laysOpen [vR (some (22, 0, 156))] (I, S) (.inl none) (loI I, S) := by
  refine w_X12_laysOpen_0 hl0 ?_
  refine up_loopN (P := fun k => ∀ J, J = up1 (up2 (trI I) 156 44 (opS I k).1) 180 (opS I k).2 → L_X12_laysOpen_11 d 156 k J S (loI I, S)) (n := ((I 156 15)).toNat) ?_ ?_ _ ?_
  · intro J hJ
    have e : J 156 15 = I 156 15 := by rw [hJ]; rfl
    exact w_X12_laysOpen_11 hl0 (fun h => absurd h (by omega)) (fun h => absurd h (by omega)) (fun _ => by rw [hJ]; rfl) (v2 := fun h => absurd h (by omega)) (v3 := fun h => absurd h (by omega))
  · intro k hk ih J hJ
    have e : J 156 15 = I 156 15 := by rw [hJ]; rfl
    have e1 : J 156 44 = (opS I k).1 := by rw [hJ]; rfl
    have e2 : J 178 (k : Int).toNat = I 178 k := by
      rw [hJ]
      show trI I 178 (k : Int).toNat = _
      unfold trI
      rw [up1_same, upTo_out (by omega)]
      rfl
    have hs : opS I (k + 1) = if I 178 k = -1 then ((opS I k).1 + 1, up1 (opS I k).2 (opS I k).1.toNat k) else opS I k := rfl
    have h1 := opS_le I k
    refine w_X12_laysOpen_11 hl0 (fun _ c => ih _ ?_) (fun _ c => ih _ ?_) (fun h => absurd h (by omega))
    · rw [e2] at c
      rw [hs, if_pos c, e1, hJ]
      funext a j
      unfold up2 up1
      by_cases h2 : a = 156 ∧ j = 44
      · rw [if_pos h2]
        obtain ⟨rfl, rfl⟩ := h2
        rfl
      · rw [if_neg h2]
        by_cases h3 : a = 180
        · subst h3
          rw [if_pos rfl, if_pos rfl]
          by_cases h4 : j = (opS I k).1.toNat
          · rw [if_pos ⟨rfl, h4⟩]; show _ = if j = (opS I k).1.toNat then (k : Int) else _; rw [if_pos h4]
          · rw [if_neg (fun q => h4 q.2)]; show _ = if j = (opS I k).1.toNat then (k : Int) else _; rw [if_neg h4]
        · rw [if_neg (fun q => h3 q.1), if_neg h3, if_neg h3]
          show (if a = 156 ∧ j = 44 then _ else _) = if a = 156 ∧ j = 44 then _ else _
          rw [if_neg h2, if_neg h2]
    · rw [e2] at c
      rw [hs, if_neg c]
      exact hJ
  · funext a j
    unfold up1 up2
    by_cases h3 : a = 180
    · subst h3; rw [if_pos rfl]; rfl
    · rw [if_neg h3]
      show trI (up2 I 156 44 0) a j = if a = 156 ∧ j = 44 then _ else trI I a j
      unfold trI up1
      by_cases h4 : a = 178
      · subst h4; rfl
      · rw [if_neg h4, if_neg h4]
        rfl
end
end
