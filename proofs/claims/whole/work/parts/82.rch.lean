/-! ===== what is reached, step by step ===== -/
noncomputable section
def rch (adj : Nat → Nat → Bool) (ok : Nat → Bool) (s m : Nat) : Nat → Nat → Bool
  | 0, i => decide (i = s)
  | n + 1, i => rch adj ok s m n i || (ok i && anyB (fun u => rch adj ok s m n u && adj u i) m)
section
variable {adj : Nat → Nat → Bool} {ok : Nat → Bool} {s m : Nat}
theorem rch_mono {n i : Nat} (h : rch adj ok s m n i = true) : rch adj ok s m (n + 1) i = true := by
  show (rch adj ok s m n i || _) = true
  rw [h]; rfl
theorem rch_lt (hs : s < m) (ha : ∀ u i, u < m → adj u i = true → i < m) : ∀ {n i : Nat}, rch adj ok s m n i = true → i < m
  | 0, i, h => by
    have : i = s := of_decide_eq_true h
    omega
  | n + 1, i, h => by
    have h : (rch adj ok s m n i || (ok i && anyB (fun u => rch adj ok s m n u && adj u i) m)) = true := h
    rcases Bool.or_eq_true_iff.mp h with h | h
    · exact rch_lt hs ha h
    · obtain ⟨_, h⟩ := Bool.and_eq_true_iff.mp h
      obtain ⟨u, hu, h⟩ := anyB_iff.mp h
      exact ha u i hu (Bool.and_eq_true_iff.mp h).2
theorem rch_ext {n k : Nat} (h : ∀ i, rch adj ok s m n i = rch adj ok s m k i) (i : Nat) : rch adj ok s m (n + 1) i = rch adj ok s m (k + 1) i := by
  show (rch adj ok s m n i || (ok i && anyB (fun u => rch adj ok s m n u && adj u i) m)) = (rch adj ok s m k i || (ok i && anyB (fun u => rch adj ok s m k u && adj u i) m))
  rw [h i]
  congr 2
  exact anyB_congr (fun u _ => by rw [h u])
/-- once nothing is new, nothing ever is -/
theorem rch_stay {n : Nat} (h : ∀ i, rch adj ok s m (n + 1) i = rch adj ok s m n i) : ∀ k, n ≤ k → ∀ i, rch adj ok s m k i = rch adj ok s m n i := by
  intro k hk
  induction hk with
  | refl => intro i; rfl
  | step _ ih =>
    intro i
    rw [rch_ext ih i]
    exact h i
def rcn (adj : Nat → Nat → Bool) (ok : Nat → Bool) (s m n : Nat) : Nat := smN (fun i => (rch adj ok s m n i).toNat) m
theorem smN_le {f g : Nat → Nat} : ∀ {n : Nat}, (∀ i, i < n → f i ≤ g i) → smN f n ≤ smN g n
  | 0, _ => Nat.le_refl 0
  | n + 1, h => by
    have h1 := smN_le (n := n) (fun i hi => h i (by omega))
    have h2 := h n (by omega)
    show smN f n + f n ≤ smN g n + g n
    omega
theorem smN_lt {f g : Nat → Nat} : ∀ {n : Nat} (j : Nat), j < n → (∀ i, i < n → f i ≤ g i) → f j < g j → smN f n < smN g n
  | 0, j, hj, _, _ => absurd hj (by omega)
  | n + 1, j, hj, h, hl => by
    show smN f n + f n < smN g n + g n
    by_cases e : j = n
    · subst e
      have h1 := smN_le (n := j) (fun i hi => h i (by omega))
      omega
    · have h1 := smN_lt (n := n) j (by omega) (fun i hi => h i (by omega)) hl
      have h2 := h n (by omega)
      omega
theorem smN_one {f : Nat → Nat} : ∀ {n : Nat}, (∀ i, i < n → f i ≤ 1) → smN f n ≤ n
  | 0, _ => Nat.le_refl 0
  | n + 1, h => by
    have h1 := smN_one (n := n) (fun i hi => h i (by omega))
    have h2 := h n (by omega)
    show smN f n + f n ≤ n + 1
    omega
theorem rch_count (hs : s < m) (ha : ∀ u i, u < m → adj u i = true → i < m) : ∀ n : Nat, (∃ k, k < n ∧ ∀ i, rch adj ok s m (k + 1) i = rch adj ok s m k i) ∨ n + 1 ≤ rcn adj ok s m n
  | 0 => by
    right
    have := smN_lt (f := fun _ => 0) (g := fun i => (rch adj ok s m 0 i).toNat) (n := m) s hs (fun i _ => Nat.zero_le _) (by
      show 0 < (decide (s = s)).toNat
      rw [decide_eq_true rfl]; decide)
    unfold rcn
    omega
  | n + 1 => by
    rcases rch_count hs ha n with ⟨k, hk, h⟩ | h
    · exact Or.inl ⟨k, by omega, h⟩
    · by_cases hst : ∀ i, rch adj ok s m (n + 1) i = rch adj ok s m n i
      · exact Or.inl ⟨n, by omega, hst⟩
      · right
        have ⟨i, hi⟩ := Classical.not_forall.mp hst
        have h1 : rch adj ok s m n i = false := by
          cases e : rch adj ok s m n i with
          | false => rfl
          | true => rw [rch_mono e, e] at hi; exact absurd rfl hi
        have h2 : rch adj ok s m (n + 1) i = true := by
          cases e : rch adj ok s m (n + 1) i with
          | true => rfl
          | false => rw [h1, e] at hi; exact absurd rfl hi
        have := smN_lt (f := fun i => (rch adj ok s m n i).toNat) (g := fun i => (rch adj ok s m (n + 1) i).toNat) (n := m) i (rch_lt hs ha h2) (fun j _ => by
          cases e : rch adj ok s m n j with
          | false => exact Nat.zero_le _
          | true => rw [rch_mono e]; exact Nat.le_refl 1) (by
          show (rch adj ok s m n i).toNat < (rch adj ok s m (n + 1) i).toNat
          rw [h1, h2]; decide)
        unfold rcn at h ⊢
        omega
/-- behind as many steps as there are spots nothing is new -/
theorem rch_end (hs : s < m) (ha : ∀ u i, u < m → adj u i = true → i < m) : ∀ k, m ≤ k → ∀ i, rch adj ok s m k i = rch adj ok s m m i := by
  have key : ∀ i, rch adj ok s m (m + 1) i = rch adj ok s m m i := by
    rcases rch_count (adj := adj) (ok := ok) hs ha m with ⟨k, hk, h⟩ | h
    · intro i
      rw [rch_stay h (m + 1) (by omega) i, rch_stay h m (by omega) i]
    · have := smN_one (f := fun i => (rch adj ok s m m i).toNat) (n := m) (fun i _ => by cases rch adj ok s m m i <;> decide)
      unfold rcn at h
      omega
  intro k hk i
  exact rch_stay key k hk i
/-- the chain, as bits -/
def chV (adj : Nat → Nat → Bool) (ok : Nat → Bool) (s m : Nat) : Int := btN (rch adj ok s m m) m
theorem chV_of (hs : s < m) (hm : m ≤ 12) (ha : ∀ u i, u < m → adj u i = true → i < m) {x : Int} {n : Nat} (hx : isI x) (hb : ∀ i, i < 32 → bt x i = rch adj ok s m n i) (hst : (∀ i, rch adj ok s m (n + 1) i = rch adj ok s m n i) ∨ m ≤ n) : x = chV adj ok s m := by
  have e : ∀ i, rch adj ok s m n i = rch adj ok s m m i := by
    rcases hst with h | h
    · intro i
      by_cases hn : n ≤ m
      · exact (rch_stay h m hn i).symm
      · rw [rch_end hs ha n (by omega) i]
    · exact rch_end hs ha n h
  unfold chV
  apply bt_ext hx (btN_isI _ _)
  intro i hi
  rw [hb i hi, e i, btN_bt (by omega)]
  cases h : rch adj ok s m m i with
  | true => rw [decide_eq_true (rch_lt hs ha h)]; rfl
  | false => rw [Bool.and_false]
end
/-! ===== the reference's chain ===== -/
section
variable {d : Nat} {I : Nat → Nat → Int} {S : PS}
def adM (I : Nat → Nat → Int) (u i : Nat) : Bool := anyB (fun k => decide (I 161 (((10 * (u : Int)) + 1) + (k : Int)).toNat = (i : Int))) (I 161 (10 * (u : Int)).toNat).toNat
def okM (I : Nat → Nat → Int) (b c its : Int) (i : Nat) : Bool := decide (I 178 (b + (i : Int)).toNat = c ∨ I 178 (b + (i : Int)).toNat = its)
def chM (I : Nat → Nat → Int) (b s c : Int) : Int := chV (adM I) (okM I b c (I 178 (b + s).toNat)) s.toNat ((I 156 15)).toNat
/-- neighbours are spots -/
def mNb (I : Nat → Nat → Int) : Prop := ∀ s : Int, 0 ≤ s → s < (I 156 15) → ∀ k : Nat, (k : Int) < (I 161 (10 * s).toNat) → 0 ≤ I 161 (((10 * s) + 1) + (k : Int)).toNat ∧ I 161 (((10 * s) + 1) + (k : Int)).toNat < (I 156 15)
theorem adM_lt (h : mNb I) (u i : Nat) (hu : u < ((I 156 15)).toNat) (ha : adM I u i = true) : i < ((I 156 15)).toNat := by
  obtain ⟨k, hk, e⟩ := anyB_iff.mp ha
  have e : I 161 (((10 * (u : Int)) + 1) + (k : Int)).toNat = (i : Int) := of_decide_eq_true e
  have := h u (by omega) (by omega) k (by omega)
  omega
theorem c_X12_chainOf {x1 x2 x3 : Int} (hl0 : LyX12 S) (hb : x1 = 0 ∨ x1 = 18) (hm : mSp I) (hn : mNb I) (hs : 0 ≤ x2 ∧ x2 < (I 156 15)) : Ca (d + 1) mX12_chainOf [vR (some (22, 0, 156)), vI x1, vI x2, vI x3] (I, S) (.inl (some (vI (chM I x1 x2 x3)))) (I, S) := by
  have hm1 := hm.1
  obtain ⟨its, hits⟩ : ∃ q, q = I 178 (x1 + x2).toNat := ⟨_, rfl⟩
  obtain ⟨m, hmm⟩ : ∃ q, q = ((I 156 15)).toNat := ⟨_, rfl⟩
  unfold chM
  rw [← hits, ← hmm]
  have hlt : ∀ u i, u < m → adM I u i = true → i < m := fun u i hu ha => by rw [hmm] at hu ⊢; exact adM_lt hn u i hu ha
  obtain ⟨ok, hok⟩ : ∃ q, q = okM I x1 x3 its := ⟨_, rfl⟩
  rw [← hok]
  refine w_X12_chainOf_0 hl0 ?_
  rw [← hits]
  have main : ∀ (j n : Nat) (x5 x6 : Int), n + j = m + 1 → isI x5 → isI x6 → (∀ i, i < 32 → bt x5 i = rch (adM I) ok x2.toNat m n i) → (∀ i, i < 32 → bt x6 i = (decide (1 ≤ n) && rch (adM I) ok x2.toNat m (n - 1) i)) → L_X12_chainOf_18 d 156 x1 x2 x3 its x5 x6 I S (chV (adM I) ok x2.toNat m) (I, S) := by
    intro j
    induction j with
    | zero =>
      intro n x5 x6 hj i5 i6 h5 h6
      have e : x6 = x5 := bt_ext i6 i5 (fun i hi => by
        rw [h5 i hi, h6 i hi, decide_eq_true (by omega), Bool.true_and, rch_end (by omega) hlt n (by omega) i, rch_end (by omega) hlt (n - 1) (by omega) i])
      refine w_X12_chainOf_18 hl0 (fun h => absurd e h) (fun _ => ?_)
      exact chV_of (by omega) (by omega) hlt i5 h5 (Or.inr (by omega))
    | succ j ih =>
      intro n x5 x6 hj i5 i6 h5 h6
      refine w_X12_chainOf_18 hl0 (fun hne => ?_) (fun he => ?_)
      · -- one step
        have spots : ∀ (ju U : Nat) (y : Int), U + ju = m → isI y → (∀ i, i < 32 → bt y i = (rch (adM I) ok x2.toNat m n i || (ok i && anyB (fun u => rch (adM I) ok x2.toNat m n u && adM I u i) U))) → L_X12_chainOf_32 d 156 x1 x2 x3 its y x5 U I S (chV (adM I) ok x2.toNat m) (I, S) := by
          intro ju
          induction ju with
          | zero =>
            intro U y hU iy hy
            refine w_X12_chainOf_32 hl0 (fun _ => ?_) (fun h => absurd h (by omega)) (fun h => absurd h (by omega))
            refine ih (n + 1) y x5 (by omega) iy i5 (fun i hi => ?_) (fun i hi => ?_)
            · rw [hy i hi, show U = m by omega]; rfl
            · rw [h5 i hi, decide_eq_true (by omega), Bool.true_and, Nat.add_sub_cancel]
          | succ ju ihu =>
            intro U y hU iy hy
            have hU2 := hm.2 U (by omega) (by omega)
            have tst : bt x5 (U : Int).toNat = rch (adM I) ok x2.toNat m n U := by rw [Int.toNat_natCast]; exact h5 U (by omega)
            refine w_X12_chainOf_32 hl0 (fun h => absurd h (by omega)) (fun _ c => ?_) (fun _ c => ?_)
            · have c := (p_tst_ne (x := x5) (s := (U : Int)) (by omega)).mp c
              rw [tst] at c
              have near : ∀ (jk K : Nat) (z : Int), K + jk = (I 161 (10 * (U : Int)).toNat).toNat → isI z → (∀ i, i < 32 → bt z i = (bt y i || (ok i && anyB (fun k => decide (I 161 (((10 * (U : Int)) + 1) + (k : Int)).toNat = (i : Int))) K))) → L_X12_chainOf_57 d 156 x1 x2 x3 its z x5 U K I S (chV (adM I) ok x2.toNat m) (I, S) := by
                intro jk
                induction jk with
                | zero =>
                  intro K z hK iz hz
                  refine w_X12_chainOf_57 hl0 (fun _ => ?_) (fun h => absurd h (by omega)) (v7 := fun h => absurd h (by omega))
                  refine ihu (U + 1) z (by omega) iz (fun i hi => ?_)
                  rw [hz i hi, hy i hi]
                  show _ = (_ || (ok i && (anyB _ U || (rch (adM I) ok x2.toNat m n U && adM I U i))))
                  rw [c, Bool.true_and, show K = (I 161 (10 * (U : Int)).toNat).toNat by omega, Bool.and_or_distrib_left, Bool.or_assoc]
                  rfl
                | succ jk ihk =>
                  intro K z hK iz hz
                  have hk2 := hU2.2 K (by omega)
                  obtain ⟨w, hw⟩ : ∃ w, w = I 161 (((10 * (U : Int)) + 1) + (K : Int)).toNat := ⟨_, rfl⟩
                  rw [← hw] at hk2
                  have okw : ok w.toNat = decide (I 178 (x1 + w).toNat = x3 ∨ I 178 (x1 + w).toNat = its) := by
                    rw [hok]; unfold okM; rw [show ((w.toNat : Nat) : Int) = w by omega]
                  have last : ∀ i : Nat, decide (w = (i : Int)) = decide (i = w.toNat) := fun i => by
                    by_cases h : w = (i : Int)
                    · rw [decide_eq_true h, decide_eq_true (by omega)]
                    · rw [decide_eq_false h, decide_eq_false (by omega)]
                  refine w_X12_chainOf_57 hl0 (fun h => absurd h (by omega)) (fun _ => ?_)
                  rw [← hw]
                  have done : ∀ z', isI z' → (∀ i, i < 32 → bt z' i = (bt z i || (ok w.toNat && decide (i = w.toNat)))) → L_X12_chainOf_57 d 156 x1 x2 x3 its z' x5 U ((K : Int) + 1) I S (chV (adM I) ok x2.toNat m) (I, S) := by
                    intro z' iz' hz'
                    refine ihk (K + 1) z' (by omega) iz' (fun i hi => ?_)
                    rw [hz' i hi, hz i hi]
                    show _ = (_ || (ok i && (anyB _ K || decide (I 161 (((10 * (U : Int)) + 1) + (K : Int)).toNat = (i : Int)))))
                    rw [← hw, last i, Bool.and_or_distrib_left, Bool.or_assoc]
                    by_cases h : i = w.toNat
                    · rw [h]
                    · rw [decide_eq_false h, Bool.and_false, Bool.and_false]
                  by_cases q1 : I 178 (x1 + w).toNat = x3
                  · rw [if_pos q1]
                    refine done _ (isI_or _ _) (fun i hi => ?_)
                    rw [bt_or, bt_bit (by omega), okw, decide_eq_true (Or.inl q1), Bool.true_and]
                  · rw [if_neg q1]
                    by_cases q2 : I 178 (x1 + w).toNat = its
                    · rw [if_neg (fun q => q q2)]
                      refine done _ (isI_or _ _) (fun i hi => ?_)
                      rw [bt_or, bt_bit (by omega), okw, decide_eq_true (Or.inr q2), Bool.true_and]
                    · rw [if_pos q2]
                      refine done _ iz (fun i hi => ?_)
                      rw [okw, decide_eq_false (fun q => q.elim q1 q2), Bool.false_and, Bool.or_false]
              refine near _ 0 y (Nat.zero_add _) iy (fun i hi => ?_)
              show _ = (_ || (ok i && false))
              rw [Bool.and_false, Bool.or_false]
            · have c := (p_tst_0 (x := x5) (s := (U : Int)) (by omega)).mp c
              rw [tst] at c
              refine ihu (U + 1) y (by omega) iy (fun i hi => ?_)
              rw [hy i hi]
              show _ = (_ || (ok i && (anyB _ U || (rch (adM I) ok x2.toNat m n U && adM I U i))))
              rw [c, Bool.false_and, Bool.or_false]
        refine spots m 0 x5 (by omega) i5 (fun i hi => ?_)
        rw [h5 i hi]
        show _ = (_ || (ok i && false))
        rw [Bool.and_false, Bool.or_false]
      · refine chV_of (n := n) (by omega) (by omega) hlt i5 h5 (Or.inl (fun i => ?_))
        by_cases hi : i < 32
        · -- nothing new
          have e1 := h5 i hi
          have e2 := h6 i hi
          have hn1 : 1 ≤ n := by
            by_cases h0 : 1 ≤ n
            · exact h0
            · exfalso
              have e3 := h5 x2.toNat (by omega)
              have e4 := h6 x2.toNat (by omega)
              rw [decide_eq_false h0, Bool.false_and, he, e3, show n = 0 by omega] at e4
              have : rch (adM I) ok x2.toNat m 0 x2.toNat = true := decide_eq_true rfl
              rw [this] at e4
              cases e4
          have all : ∀ i, rch (adM I) ok x2.toNat m (n - 1 + 1) i = rch (adM I) ok x2.toNat m (n - 1) i := by
            intro i
            rw [show n - 1 + 1 = n by omega]
            by_cases hi : i < 32
            · have e1 := h5 i hi
              have e2 := h6 i hi
              rw [he, e1, decide_eq_true hn1, Bool.true_and] at e2
              exact e2
            · cases q : rch (adM I) ok x2.toNat m n i with
              | true => exact absurd (rch_lt (by omega) hlt q) (by omega)
              | false =>
                cases q2 : rch (adM I) ok x2.toNat m (n - 1) i with
                | true => exact absurd (rch_lt (by omega) hlt q2) (by omega)
                | false => rfl
          rw [rch_stay all (n + 1) (by omega) i, rch_stay all n (by omega) i]
        · cases q : rch (adM I) ok x2.toNat m (n + 1) i with
          | true => exact absurd (rch_lt (by omega) hlt q) (by omega)
          | false =>
            cases q2 : rch (adM I) ok x2.toNat m n i with
            | true => exact absurd (rch_lt (by omega) hlt q2) (by omega)
            | false => rfl
  refine main (m + 1) 0 (p_shl 1 x2) 0 (by omega) (isI_shl _ _) ⟨by decide, by decide⟩ (fun i hi => ?_) (fun i hi => ?_)
  · rw [bt_bit (by omega)]; rfl
  · rw [bt_zero]; rfl
end
end
