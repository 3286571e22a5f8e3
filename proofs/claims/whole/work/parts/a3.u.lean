/-! ===== edges of a piece, as the reference lays them ===== -/
noncomputable section
def edR (r : Int) : Nat → List (Int × Int)
  | 0 => []
  | k + 1 => edR r k ++ [((k : Int), ((k : Int) + 1) % r)]
def edS (r s hub : Int) : Nat → List (Int × Int)
  | 0 => []
  | k + 1 => (edS r s hub k ++ [(r, r + 1 + (k : Int))]) ++ (if (k : Int) + 1 < s then [(r + 1 + (k : Int), r + 2 + (k : Int))] else if s = hub then [(r + 1 + (k : Int), r + 1)] else [])
def edP (v at0 r : Int) : Nat → List (Int × Int)
  | 0 => []
  | k + 1 => edP v at0 r k ++ [(v, (at0 + (k : Int)) % r)]
def edB (v many : Nat → Int) (r : Int) : Nat → Int × List (Int × Int)
  | 0 => (0, [])
  | i + 1 => ((edB v many r i).1 + (many i - 1), (edB v many r i).2 ++ edP (v i) (edB v many r i).1 r (many i).toNat)
/-- all these edges are laid -/
def lkOL (f : Nat → Int) (o : Int) (l : List (Int × Int)) : Nat → Int := l.foldl (fun f e => lkO f o e.1 e.2) f
theorem lkOL_snoc (f : Nat → Int) (o : Int) (l : List (Int × Int)) (a b : Int) : lkO (lkOL f o l) o a b = lkOL f o (l ++ [(a, b)]) := by
  unfold lkOL
  rw [List.foldl_append]
  rfl
section
variable {d : Nat} {I : Nat → Nat → Int} {S : PS}
def edW (I : Nat → Nat → Int) (a0 : Nat) (p : Int) : List (Int × Int) := (edR (I a0 ((20 * p) + 9).toNat) (I a0 ((20 * p) + 9).toNat).toNat ++ edS (I a0 ((20 * p) + 9).toNat) (I a0 ((20 * p) + 1).toNat) (I a0 (20 * p).toNat) (I a0 ((20 * p) + 1).toNat).toNat) ++ (edB (fun i => if (i : Int) ≠ I a0 ((20 * p) + 1).toNat then (I a0 ((20 * p) + 9).toNat + 1 + (i : Int) : Int) else I a0 ((20 * p) + 9).toNat) (fun i => if I a0 ((20 * p) + 1).toNat ≠ 0 then (f_X12_outer I a0 p i : Int) else I a0 ((20 * p) + 9).toNat) (I a0 ((20 * p) + 9).toNat) (bdF (I a0) p).toNat).2
def leI (I : Nat → Nat → Int) (p : Int) : Nat → Nat → Int := up1 I 166 (lkOL (upTo (I 166) (fun _ => 0) (15 * p).toNat 15) (15 * p) (edW I 162 p))
theorem outer_pos {a0 : Nat} {x1 x2 : Int} (h : mPc (I a0) x1) (hi : 0 ≤ x2 ∧ x2 < bdF (I a0) x1) : 1 ≤ f_X12_outer I a0 x1 x2 := by
  obtain ⟨h1, h2, h3⟩ := id h
  have hb := bdF_in h
  unfold f_X12_outer
  split
  · have := h3 x2 hi.1 (by omega)
    split <;> split <;> omega
  · rename_i hq
    have hq : x2 = I a0 ((20 * x1) + 1).toNat := Classical.not_not.mp hq
    unfold bdF at hi
    by_cases hw : I a0 ((20 * x1) + 1).toNat ≠ I a0 (20 * x1).toNat
    · omega
    · rw [if_neg hw] at hi
      omega
theorem c_X12_laysEdges {x1 : Int} (hl0 : LyX12 S) (hp : 0 ≤ x1 ∧ x1 < 4) (h : mPc (I 162) x1) (hr : 1 ≤ I 162 ((20 * x1) + 9).toNat ∧ I 162 ((20 * x1) + 9).toNat ≤ 7) : Ca (d + 1) mX12_laysEdges [vR (some (22, 0, 156)), vI x1] (I, S) (.inl none) (leI I x1, S) := by
  obtain ⟨h1, h2, h3⟩ := id h
  have hbd := bdF_in h
  obtain ⟨r, hr0⟩ : ∃ q, q = I 162 ((20 * x1) + 9).toNat := ⟨_, rfl⟩
  obtain ⟨s, hs0⟩ : ∃ q, q = I 162 ((20 * x1) + 1).toNat := ⟨_, rfl⟩
  obtain ⟨hub, hh0⟩ : ∃ q, q = I 162 (20 * x1).toNat := ⟨_, rfl⟩
  obtain ⟨B, hB0⟩ : ∃ q, q = bdF (I 162) x1 := ⟨_, rfl⟩
  obtain ⟨vf, hvf⟩ : ∃ q : Nat → Int, q = fun (i : Nat) => if (i : Int) ≠ s then (r + 1 + (i : Int) : Int) else r := ⟨_, rfl⟩
  obtain ⟨mf, hmf⟩ : ∃ q : Nat → Int, q = fun (i : Nat) => if s ≠ 0 then (f_X12_outer I 162 x1 (i : Int) : Int) else r := ⟨_, rfl⟩
  obtain ⟨Z, hZ⟩ : ∃ q, q = upTo (I 166) (fun _ => 0) (15 * x1).toNat 15 := ⟨_, rfl⟩
  obtain ⟨F, hF⟩ : ∃ q, q = leI I x1 := ⟨_, rfl⟩
  have hF2 : F = up1 I 166 (lkOL Z (15 * x1) ((edR r r.toNat ++ edS r s hub s.toNat) ++ (edB vf mf r B.toNat).2)) := by
    rw [hF, hZ, hvf, hmf, hB0, hr0, hs0, hh0]; rfl
  rw [← hF]
  rw [← hr0] at hr
  rw [← hh0] at h1 h2
  rw [← hs0] at h2 h3 hbd
  rw [← hB0] at hbd
  have key : ∀ J, (∃ l, J = up1 I 166 l) → J 162 = I 162 := fun J ⟨l, hl⟩ => by rw [hl]; rfl
  have upd : ∀ (l : List (Int × Int)) (a b : Int) (J : Nat → Nat → Int), J = up1 I 166 (lkOL Z (15 * x1) l) → up1 J 166 (lkO (J 166) (15 * x1) a b) = up1 I 166 (lkOL Z (15 * x1) (l ++ [(a, b)])) := fun l a b J hJ => by
    rw [hJ, up1_same, lkOL_snoc, up1_up1]
  have many : ∀ i : Nat, (i : Int) < B → 1 ≤ mf i ∧ mf i ≤ 8 := fun i hi => by
    rw [hmf]
    show 1 ≤ (if s ≠ 0 then (f_X12_outer I 162 x1 i : Int) else r) ∧ (if s ≠ 0 then (f_X12_outer I 162 x1 i : Int) else r) ≤ 8
    have q1 := outer_pos (x2 := (i : Int)) h (by omega)
    have q2 := outer_in (x2 := (i : Int)) h (by omega)
    split <;> omega
  have atb : ∀ i : Nat, (i : Int) ≤ B → 0 ≤ (edB vf mf r i).1 ∧ (edB vf mf r i).1 ≤ 7 * i := by
    intro i
    induction i with
    | zero => intro _; show 0 ≤ (0 : Int) ∧ (0 : Int) ≤ 7 * ((0 : Nat) : Int); omega
    | succ i ih =>
      intro hi
      have i1 := ih (by omega)
      have i2 := many i (by omega)
      show 0 ≤ (edB vf mf r i).1 + (mf i - 1) ∧ (edB vf mf r i).1 + (mf i - 1) ≤ 7 * ((i + 1 : Nat) : Int)
      omega
  -- the border
  have border : ∀ (j i : Nat) (J : Nat → Nat → Int), (i : Int) + j = B → J = up1 I 166 (lkOL Z (15 * x1) ((edR r r.toNat ++ edS r s hub s.toNat) ++ (edB vf mf r i).2)) → L_X12_laysEdges_170 d 156 x1 r s (edB vf mf r i).1 i J S (F, S) := by
    intro j
    induction j with
    | zero =>
      intro i J hi hJ
      have eP := key J ⟨_, hJ⟩
      refine w_X12_laysEdges_170 hl0 (fun hh => absurd hh (by rw [eP, ← hB0]; omega)) (fun _ => ?_) (v2 := by rw [eP, ← hs0]; omega) (v5 := fun hh => absurd hh (by rw [eP, ← hB0]; omega)) (v6 := fun hh => absurd hh (by rw [eP, ← hB0]; omega)) (v4 := fun hh => absurd hh (by rw [eP, ← hB0]; omega)) (v3 := fun hh => absurd hh (by rw [eP, ← hB0]; omega))
      rw [hJ, hF2, show i = B.toNat by omega]
    | succ j ih =>
      intro i J hi hJ
      have eP := key J ⟨_, hJ⟩
      have hmi := many i (by omega)
      have hat := atb i (by omega)
      have eo : f_X12_outer J 162 x1 i = f_X12_outer I 162 x1 i := by unfold f_X12_outer; rw [eP]
      refine w_X12_laysEdges_170 hl0 (fun _ => ?_) (fun hh => absurd hh (by rw [eP, ← hB0]; omega)) (v2 := by rw [eP, ← hs0]; omega) (v5 := fun _ _ => by rw [eP]; exact h) (v6 := fun _ _ => by rw [eP, ← hs0]; omega)
      rw [eo]
      have ev : (if (i : Int) ≠ s then (r + 1 + (i : Int) : Int) else r) = vf i := by rw [hvf]
      have em : (if s ≠ 0 then (f_X12_outer I 162 x1 i : Int) else r) = mf i := by rw [hmf]
      rw [ev, em]
      have hvi : 0 ≤ vf i ∧ vf i < 15 := by
        rw [← ev]; split <;> omega
      have inner : ∀ (jk k : Nat) (J : Nat → Nat → Int), (k : Int) + jk = mf i → J = up1 I 166 (lkOL Z (15 * x1) ((edR r r.toNat ++ edS r s hub s.toNat) ++ ((edB vf mf r i).2 ++ edP (vf i) (edB vf mf r i).1 r k))) → L_X12_laysEdges_224 d 156 x1 r s (edB vf mf r i).1 i (vf i) (mf i) k J S (F, S) := by
        intro jk
        induction jk with
        | zero =>
          intro k J hk hJ
          refine w_X12_laysEdges_224 hl0 (fun _ => ?_) (fun hh => absurd hh (by omega)) (v8 := fun hh => absurd hh (by omega))
          refine ih (i + 1) J (by omega) ?_
          rw [hJ, show k = (mf i).toNat by omega]
          rfl
        | succ jk ihk =>
          intro k J hk hJ
          have q1 : 0 ≤ ((edB vf mf r i).1 + (k : Int)) % r := Int.emod_nonneg _ (by omega)
          have q2 : ((edB vf mf r i).1 + (k : Int)) % r < r := Int.emod_lt_of_pos _ (by omega)
          refine w_X12_laysEdges_224 hl0 (fun hh => absurd hh (by omega)) (fun _ => ?_)
          refine ihk (k + 1) _ (by omega) ?_
          rw [upd _ _ _ J hJ]
          congr 2
          show _ = (_ ++ _) ++ ((edB vf mf r i).2 ++ (edP (vf i) (edB vf mf r i).1 r k ++ [(vf i, ((edB vf mf r i).1 + (k : Int)) % r)]))
          simp only [List.append_assoc]
      refine inner (mf i).toNat 0 J (by omega) ?_
      rw [hJ]
      congr 2
      show _ = _ ++ ((edB vf mf r i).2 ++ [])
      rw [List.append_nil]
  -- the spokes
  have spokes : ∀ (j k : Nat) (J : Nat → Nat → Int), (k : Int) + j = s → J = up1 I 166 (lkOL Z (15 * x1) (edR r r.toNat ++ edS r s hub k)) → L_X12_laysEdges_85 d 156 x1 r s k J S (F, S) := by
    intro j
    induction j with
    | zero =>
      intro k J hk hJ
      refine w_X12_laysEdges_85 hl0 (fun _ => ?_) (fun hh => absurd hh (by omega)) (fun hh => absurd hh (by omega)) (fun hh => absurd hh (by omega))
      refine border B.toNat 0 J (by omega) ?_
      rw [hJ, show k = s.toNat by omega]
      congr 2
      exact (List.append_nil _).symm
    | succ j ih =>
      intro k J hk hJ
      have eP := key J ⟨_, hJ⟩
      have e1 := upd _ r (r + 1 + (k : Int)) J hJ
      refine w_X12_laysEdges_85 hl0 (fun hh => absurd hh (by omega)) (fun _ c1 c2 => ?_) (fun _ c1 c2 => ?_) (fun _ c1 => ?_)
      · rw [eP, ← hh0] at c2
        refine ih (k + 1) _ (by omega) ?_
        rw [e1]
        congr 2
        show _ = _ ++ ((edS r s hub k ++ [(r, r + 1 + (k : Int))]) ++ (if (k : Int) + 1 < s then _ else if s = hub then _ else []))
        rw [if_neg (by omega), if_neg c2, List.append_nil, List.append_assoc]
      · rw [eP, ← hh0] at c2
        refine ih (k + 1) _ (by omega) ?_
        rw [upd _ _ _ _ e1]
        congr 2
        show _ = _ ++ ((edS r s hub k ++ [(r, r + 1 + (k : Int))]) ++ (if (k : Int) + 1 < s then _ else if s = hub then [(r + 1 + (k : Int), r + 1)] else []))
        rw [if_neg (by omega), if_pos c2, List.append_assoc, List.append_assoc, List.append_assoc]
      · refine ih (k + 1) _ (by omega) ?_
        rw [upd _ _ _ _ e1]
        congr 2
        show _ = _ ++ ((edS r s hub k ++ [(r, r + 1 + (k : Int))]) ++ (if (k : Int) + 1 < s then [(r + 1 + (k : Int), r + 2 + (k : Int))] else _))
        rw [if_pos c1, List.append_assoc, List.append_assoc, List.append_assoc]
  refine w_X12_laysEdges_0 hl0 ?_
  rw [← hr0, ← hs0]
  refine up_loopN (P := fun k => ∀ J, J = up1 I 166 (upTo (I 166) (fun _ => 0) (15 * x1).toNat k) → L_X12_laysEdges_28 d 156 x1 r s k J S (F, S)) (n := 15) ?_ ?_ I (upTo_start _ _ _ _).symm
  · intro J hJ
    refine w_X12_laysEdges_28 hl0 (fun _ => ?_) (fun hh => absurd hh (by decide))
    refine up_loopN (P := fun k => ∀ J, J = up1 I 166 (lkOL Z (15 * x1) (edR r k)) → L_X12_laysEdges_57 d 156 x1 r s k J S (F, S)) (n := r.toNat) ?_ ?_ J (by rw [hJ, hZ]; rfl)
    · intro J hJ
      refine w_X12_laysEdges_57 hl0 (fun _ => ?_) (fun hh => absurd hh (by omega)) (v5 := fun hh => absurd hh (by omega))
      refine spokes s.toNat 0 J (by omega) ?_
      rw [hJ]
      congr 2
      exact (List.append_nil _).symm
    · intro k hk ih J hJ
      have q1 : 0 ≤ ((k : Int) + 1) % r := Int.emod_nonneg _ (by omega)
      have q2 : ((k : Int) + 1) % r < r := Int.emod_lt_of_pos _ (by omega)
      refine w_X12_laysEdges_57 hl0 (fun hh => absurd hh (by omega)) (fun _ => ih _ ?_)
      exact upd _ _ _ J hJ
  · intro k hk ih J hJ
    refine w_X12_laysEdges_28 hl0 (fun hh => absurd hh (by omega)) (fun _ => ih _ ?_)
    rw [hJ]
    exact upTo_step (by omega) rfl
end
end
