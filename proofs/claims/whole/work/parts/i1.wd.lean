/-! ===== which word a token is: both sides alike ===== -/
noncomputable section
theorem pk_inj {f g : Nat → Nat} : ∀ (L M : Nat), (∀ j, j < L → 1 ≤ f j ∧ f j < 32) → (∀ j, j < M → 1 ≤ g j ∧ g j < 32) → pkN f L = pkN g M → L = M ∧ ∀ j, j < L → f j = g j
  | 0, 0, _, _, _ => ⟨rfl, fun j hj => absurd hj (by omega)⟩
  | 0, M + 1, _, hg, h => by
    have := hg M (by omega)
    have h : 0 = 32 * pkN g M + g M := h
    omega
  | L + 1, 0, hf, _, h => by
    have := hf L (by omega)
    have h : 32 * pkN f L + f L = 0 := h
    omega
  | L + 1, M + 1, hf, hg, h => by
    have h1 := hf L (by omega)
    have h2 := hg M (by omega)
    have h : 32 * pkN f L + f L = 32 * pkN g M + g M := h
    obtain ⟨e1, e2⟩ := pk_inj L M (fun j hj => hf j (by omega)) (fun j hj => hg j (by omega)) (by omega)
    subst e1
    refine ⟨rfl, fun j hj => ?_⟩
    by_cases e : j = L
    · rw [e]; omega
    · exact e2 j (by omega)
def wN (k : Nat) : Nat := pkN (fun j => (wL k).getD j 0 - 96) (wL k).length
theorem let_wN : ∀ k : Fin 13, f_X12_letters (k.val : Int) = (wN k.val : Int) := by decide +kernel
theorem wL_ok : ∀ k : Fin 13, allB (fun j => decide (97 ≤ (wL k.val).getD j 0 ∧ (wL k.val).getD j 0 ≤ 122)) (wL k.val).length = true ∧ (1 ≤ (wL k.val).length ∧ (wL k.val).length ≤ 5) ∧ wN k.val < 33554432 := by decide +kernel
theorem wL_inj : ∀ k k' : Fin 13, wL k.val = wL k'.val → k = k' := by decide +kernel
theorem kw_eq {t : Nat → Int} {st L k : Nat} (hL : L ≤ 5) (hk : k < 13) (ht : ∀ j, j < L → 97 ≤ t (st + j) ∧ t (st + j) ≤ 122) : mwS t st L = f_X12_letters (k : Int) ↔ wE t st L k = true := by
  have hlet := let_wN ⟨k, hk⟩
  obtain ⟨hw, hl, _⟩ := wL_ok ⟨k, hk⟩
  dsimp only at hlet hw hl
  have hw : ∀ j, j < (wL k).length → 97 ≤ (wL k).getD j 0 ∧ (wL k).getD j 0 ≤ 122 := fun j hj => of_decide_eq_true (allB_iff.mp hw j hj)
  obtain ⟨m1, m2⟩ := mw_pk (t := t) (st := st) (f := fun j => (t (st + j) - 96).toNat) hL (fun j hj => by have := ht j hj; omega)
  rw [hlet, m1]
  unfold wE
  rw [Bool.and_eq_true, decide_eq_true_iff]
  constructor
  · intro e
    obtain ⟨e1, e2⟩ := pk_inj L (wL k).length (f := fun j => (t (st + j) - 96).toNat) (g := fun j => (wL k).getD j 0 - 96) (fun j hj => by have := ht j hj; omega) (fun j hj => by have := hw j hj; omega) (Int.ofNat_inj.mp e)
    refine ⟨e1, allB_iff.mpr (fun j hj => decide_eq_true ?_)⟩
    have h1 := e2 j hj
    have h2 := ht j hj
    have h3 := hw j (by omega)
    omega
  · rintro ⟨e1, e2⟩
    unfold wN
    rw [← e1]
    congr 1
    have key : ∀ m, m ≤ L → pkN (fun j => (t (st + j) - 96).toNat) m = pkN (fun j => (wL k).getD j 0 - 96) m := by
      intro m
      induction m with
      | zero => intro _; rfl
      | succ m ih =>
        intro hm
        have h1 := of_decide_eq_true (allB_iff.mp e2 m (by omega))
        show 32 * pkN _ m + (t (st + m) - 96).toNat = 32 * pkN _ m + ((wL k).getD m 0 - 96)
        rw [ih (by omega), h1]
        have h3 := hw m (by omega)
        omega
    exact key L (Nat.le_refl L)
theorem wE_one {t : Nat → Int} {st L k k' : Nat} (hk : k < 13) (hk' : k' < 13) (h : wE t st L k = true) (h' : wE t st L k' = true) : k = k' := by
  unfold wE at h h'
  rw [Bool.and_eq_true, decide_eq_true_iff] at h h'
  have : wL k = wL k' := by
    refine List.ext_getElem (by omega) (fun j h1 h2 => ?_)
    have e1 := of_decide_eq_true (allB_iff.mp h.2 j (by omega))
    have e2 := of_decide_eq_true (allB_iff.mp h'.2 j (by omega))
    rw [List.getD_eq_getElem?_getD, List.getElem?_eq_getElem h1] at e1
    rw [List.getD_eq_getElem?_getD, List.getElem?_eq_getElem h2] at e2
    have e1 : t (st + j) = (((wL k)[j] : Nat) : Int) := e1
    have e2 : t (st + j) = (((wL k')[j] : Nat) : Int) := e2
    omega
  have := wL_inj ⟨k, hk⟩ ⟨k', hk'⟩ this
  exact congrArg Fin.val this
/-- the known word of a token, or -1 -/
def wdK (t : Nat → Int) (n p : Nat) : Int := if tkK t n p = 1 then fstB (wE t (tkS t n p) (tkE t n p - tkS t n p)) 13 else -1
theorem wdK_iff {t : Nat → Int} {n p k : Nat} (hk : k < 13) : wdK t n p = (k : Int) ↔ tkK t n p = 1 ∧ wE t (tkS t n p) (tkE t n p - tkS t n p) k = true := by
  unfold wdK
  by_cases c : tkK t n p = 1
  · rw [if_pos c]
    constructor
    · intro h
      refine ⟨c, ?_⟩
      have hin := fstB_iff (p := wE t (tkS t n p) (tkE t n p - tkS t n p)) (n := 13)
      obtain ⟨k', hk', e⟩ := anyB_iff.mp (hin.mp (by omega))
      have := fst_at (p := wE t (tkS t n p) (tkE t n p - tkS t n p)) (n := 13) hk' e (fun i hi => by
        cases w : wE t (tkS t n p) (tkE t n p - tkS t n p) i with
        | false => rfl
        | true => have := wE_one (by omega) hk' w e; omega)
      rw [this] at h
      have : k' = k := by omega
      rw [← this]; exact e
    · rintro ⟨_, e⟩
      exact fst_at hk e (fun i hi => by
        cases w : wE t (tkS t n p) (tkE t n p - tkS t n p) i with
        | false => rfl
        | true => have := wE_one (by omega) hk w e; omega)
  · rw [if_neg c]
    exact ⟨fun h => absurd h (by omega), fun h => absurd h.1 c⟩
theorem wdK_in (t : Nat → Int) (n p : Nat) : -1 ≤ wdK t n p ∧ wdK t n p < 13 := by
  unfold wdK
  split
  · have := fstB_in (wE t (tkS t n p) (tkE t n p - tkS t n p)) 13
    omega
  · decide
/-- where the class's strings stand, by the reference's numbers of words -/
def sNo (k : Nat) : Nat := ([4, 6, 8, 12, 14, 16, 18, 10, 20, 22, 24, 26, 28] : List Nat).getD k 0
def stC (I : Nat → Nat → Int) : Prop := ∀ k, k < 13 → ∀ j, j < (wL k).length → I (sNo k + 1) j = ((wL k).getD j 0 : Int)
theorem iw_eq {I : Nat → Nat → Int} {t t' : Nat → Int} {n p k : Nat} (hx : txR t t') (hst : stC I) (h33 : I 33 = t) (h2 : I 32 2 = (tkE t' n p : Int)) (h4 : I 32 4 = (tkS t' n p : Int)) (h3 : I 32 3 = tkK t' n p) (hp : p ≤ n) (hk : k < 13) : iwC I (wL k).length (sNo k) = decide (wdK t' n p = (k : Int)) := by
  have hin := tk_in t' hp
  have e : iwC I (wL k).length (sNo k) = true ↔ wdK t' n p = (k : Int) := by
    rw [wdK_iff hk]
    unfold iwC wE
    rw [h3, h2, h4, Bool.and_eq_true, Bool.and_eq_true, Bool.and_eq_true, decide_eq_true_iff, decide_eq_true_iff, decide_eq_true_iff]
    constructor
    · rintro ⟨⟨q1, q2⟩, q3⟩
      refine ⟨q1, by omega, allB_iff.mpr (fun j hj => decide_eq_true ?_)⟩
      have q4 := of_decide_eq_true (allB_iff.mp q3 j (by omega))
      have hlt := kdA_let ((tk_kind t' (k := tkS t' n p + j) (Or.inl q1) (by omega) (by omega)).trans q1)
      rw [h33, h4, show ((tkS t' n p : Int) + (j : Int)).toNat = tkS t' n p + j by omega, tx_same hx (by omega), hst k hk j (by omega)] at q4
      exact q4
    · rintro ⟨q1, q2, q3⟩
      refine ⟨⟨q1, by omega⟩, allB_iff.mpr (fun j hj => decide_eq_true ?_)⟩
      have q4 := of_decide_eq_true (allB_iff.mp q3 j (by omega))
      have hlt := kdA_let ((tk_kind t' (k := tkS t' n p + j) (Or.inl q1) (by omega) (by omega)).trans q1)
      rw [h33, h4, show ((tkS t' n p : Int) + (j : Int)).toNat = tkS t' n p + j by omega, tx_same hx (by omega), hst k hk j (by omega)]
      exact q4
  cases h : iwC I (wL k).length (sNo k) with
  | true => exact (decide_eq_true (e.mp h)).symm
  | false => exact (decide_eq_false (fun q => by rw [e.mpr q] at h; cases h)).symm
end
