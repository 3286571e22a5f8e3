/-! ===== a round of the law for each call ===== -/
noncomputable section
abbrev lwL (L : Nat) (i : Int) : PLs := [some (vR (some (5, L, 0))), some (vR (some (21, 0, 31))), some (vR (some (22, 0, 156))), some (vR (some (2, 1, 191))), some (vI i), none, none]
def IVx (c : Nat) (I : Nat → Nat → Int) (S : PS) : Prop := ∃ T U n P R N, IV c T U n P R N I S
section
variable {L c : Nat} {i : Int} {I : Nat → Nat → Int} {S : PS}
theorem IVx_i {T U n P R N : Nat} (h : IV c T U n P R N I S) (j : Nat) : isI (I 0 j) := ((IV_G h).2.1 1 j (by decide) (by decide)).2
theorem IVx_l (h : IVx c I S) : LyX12 S := by
  obtain ⟨T, U, n, P, R, N, h⟩ := h
  exact (IV_L h).2.1
/-- what a round gives -/
def rdQ5 (L c : Nat) (i : Int) (pc : Nat) (I : Nat → Nat → Int) (S : PS) : Prop := ∃ K S', IVx (c + 1) K S' ∧ ∀ r, Ev 62 mL_law (2427, lwL L i, [], (K, S')) r → Ev 62 mL_law (pc, lwL L i, [], (I, S)) r
theorem rd_feed (hi : 0 ≤ i ∧ i + 6 ≤ (L : Int)) (hL : L ≤ 3072) (hcc : c ≤ 900) (hx : IVx c I S) : rdQ5 L c i 204 I S := by
  obtain ⟨T, U, n, P, R, N, h⟩ := hx
  obtain ⟨k, v, J, S', hcl, hrf⟩ := pu_feed (x1 := I 0 (i + 1).toNat) (x2 := I 0 (i + 2).toNat) (x3 := I 0 (i + 3).toNat) (x4 := I 0 (i + 4).toNat) (x5 := I 0 (i + 5).toNat) h
  have hcl : k = 0 ∧ Ca 60 mX11_feed [vR (some (21, 0, 31)), vI (I 0 (i + 1).toNat), vI (I 0 (i + 2).toNat), vI (I 0 (i + 3).toNat), vI (I 0 (i + 4).toNat), vI (I 0 (i + 5).toNat)] (I, S) (.inl (some (vI v))) (J, S') := hcl.elim id (fun q => by
    obtain ⟨e, ke, kn, _⟩ := q
    exact (ecZ_e (by rw [← ke]; exact kn)).elim)
  obtain ⟨k0, hc⟩ := hcl
  obtain ⟨y0, b, K, r1, r2, r3, r4, r5⟩ := hrf J (fun _ _ => rfl)
  rw [← y0] at r1
  refine ⟨K, S', r5, fun r nx => ?_⟩
  refine b5_L_law_204 (by omega) ⟨by omega, by omega⟩ (by omega) ⟨by omega, by omega⟩ (by omega) ⟨by omega, by omega⟩ (by omega) ⟨by omega, by omega⟩ (by omega) ⟨by omega, by omega⟩ (Ca.deep hc (by omega)) ?_
  refine b5_L_law_238 (by omega) ⟨by omega, by omega⟩ (by omega) ⟨by omega, by omega⟩ (by omega) ⟨by omega, by omega⟩ (by omega) ⟨by omega, by omega⟩ (by omega) ⟨by omega, by omega⟩ (Ca.deep r1 (by omega)) ?_
  exact b5_L_law_272 (fun _ => nx) (fun q => absurd (r3 k0).symm q)
theorem rd_atlas (hi : 0 ≤ i ∧ i + 6 ≤ (L : Int)) (hL : L ≤ 3072) (hcc : c ≤ 900) (hx : IVx c I S) : rdQ5 L c i 277 I S := by
  obtain ⟨T, U, n, P, R, N, h⟩ := hx
  obtain ⟨k, v, J, S', hcl, hrf⟩ := pu_atlas (x1 := I 0 (i + 1).toNat) h (by omega)
  obtain ⟨J1, s1, s2, s3⟩ := smm_atlas hcl
  obtain ⟨y0, b, K, r1, r2, r3, r4, r5⟩ := hrf J1 s2
  have lK := IVx_l (c := c + 1) r5
  rw [← y0] at r1
  refine ⟨K, S', r5, fun r nx => ?_⟩
  refine b5_L_law_277 (by omega) ⟨by omega, by omega⟩ s1 ?_
  refine b5_L_law_288 (by omega) ⟨by omega, by omega⟩ (Ca.deep r1 (by omega)) ?_
  refine b5_L_law_300 (c_X12_thrown lK) ?_
  refine b5_L_law_306 (fun _ => ?_) (fun q => absurd r2 q)
  refine b5_L_law_313 (fun _ => b5_L_law_330 nx) (fun k0 => ?_)
  refine b5_L_law_318 (by decide) (fun _ => b5_L_law_330 nx) (fun q => absurd ?_ q)
  show p_lcmp (K 191 0) (p_i2l b) = 0
  rw [r4, s3 k0, r3 k0]
  exact lcmp_self _
theorem rd_fault (hi : 0 ≤ i ∧ i + 6 ≤ (L : Int)) (hL : L ≤ 3072) (hcc : c ≤ 900) (hx : IVx c I S) : rdQ5 L c i 333 I S := by
  obtain ⟨T, U, n, P, R, N, h⟩ := hx
  obtain ⟨k, v, J, S', hcl, hrf⟩ := pu_fault  h
  have hcl : k = 0 ∧ Ca 60 mX11_fault [vR (some (21, 0, 31))] (I, S) (.inl (some (vI v))) (J, S') := hcl.elim id (fun q => by
    obtain ⟨e, ke, kn, _⟩ := q
    exact (ecZ_e (by rw [← ke]; exact kn)).elim)
  obtain ⟨k0, hc⟩ := hcl
  obtain ⟨y0, b, K, r1, r2, r3, r4, r5⟩ := hrf J (fun _ _ => rfl)
  refine ⟨K, S', r5, fun r nx => ?_⟩
  refine b5_L_law_333  (Ca.deep hc (by omega)) ?_
  refine b5_L_law_337  (Ca.deep r1 (by omega)) ?_
  exact b5_L_law_341 (fun _ => nx) (fun q => absurd (r3 k0).symm q)
theorem rd_count (hi : 0 ≤ i ∧ i + 6 ≤ (L : Int)) (hL : L ≤ 3072) (hcc : c ≤ 900) (hx : IVx c I S) : rdQ5 L c i 346 I S := by
  obtain ⟨T, U, n, P, R, N, h⟩ := hx
  obtain ⟨k, v, J, S', hcl, hrf⟩ := pu_count (x1 := I 0 (i + 1).toNat) h
  obtain ⟨J1, s1, s2, s3⟩ := smm_count hcl
  obtain ⟨y0, b, K, r1, r2, r3, r4, r5⟩ := hrf J1 s2
  have lK := IVx_l (c := c + 1) r5
  rw [← y0] at r1
  refine ⟨K, S', r5, fun r nx => ?_⟩
  refine b5_L_law_346 (by omega) ⟨by omega, by omega⟩ s1 ?_
  refine b5_L_law_357 (by omega) ⟨by omega, by omega⟩ (Ca.deep r1 (by omega)) ?_
  refine b5_L_law_369 (c_X12_thrown lK) ?_
  refine b5_L_law_375 (fun _ => ?_) (fun q => absurd r2 q)
  refine b5_L_law_382 (fun _ => b5_L_law_399 nx) (fun k0 => ?_)
  refine b5_L_law_387 (by decide) (fun _ => b5_L_law_399 nx) (fun q => absurd ?_ q)
  show p_lcmp (K 191 0) (p_i2l b) = 0
  rw [r4, s3 k0, r3 k0]
  exact lcmp_self _
theorem rd_piece (hi : 0 ≤ i ∧ i + 6 ≤ (L : Int)) (hL : L ≤ 3072) (hcc : c ≤ 900) (hx : IVx c I S) : rdQ5 L c i 402 I S := by
  obtain ⟨T, U, n, P, R, N, h⟩ := hx
  obtain ⟨k, v, J, S', hcl, hrf⟩ := pu_piece (x1 := I 0 (i + 1).toNat) (x2 := I 0 (i + 2).toNat) h
  obtain ⟨J1, s1, s2, s3⟩ := smm_piece hcl
  obtain ⟨y0, b, K, r1, r2, r3, r4, r5⟩ := hrf J1 s2
  have lK := IVx_l (c := c + 1) r5
  rw [← y0] at r1
  refine ⟨K, S', r5, fun r nx => ?_⟩
  refine b5_L_law_402 (by omega) ⟨by omega, by omega⟩ (by omega) ⟨by omega, by omega⟩ s1 ?_
  refine b5_L_law_419 (by omega) ⟨by omega, by omega⟩ (by omega) ⟨by omega, by omega⟩ (Ca.deep r1 (by omega)) ?_
  refine b5_L_law_437 (c_X12_thrown lK) ?_
  refine b5_L_law_443 (fun _ => ?_) (fun q => absurd r2 q)
  refine b5_L_law_450 (fun _ => b5_L_law_467 nx) (fun k0 => ?_)
  refine b5_L_law_455 (by decide) (fun _ => b5_L_law_467 nx) (fun q => absurd ?_ q)
  show p_lcmp (K 191 0) (p_i2l b) = 0
  rw [r4, s3 k0, r3 k0]
  exact lcmp_self _
theorem rd_vertex (hi : 0 ≤ i ∧ i + 6 ≤ (L : Int)) (hL : L ≤ 3072) (hcc : c ≤ 900) (hx : IVx c I S) : rdQ5 L c i 470 I S := by
  obtain ⟨T, U, n, P, R, N, h⟩ := hx
  obtain ⟨k, v, J, S', hcl, hrf⟩ := pu_vertex (x1 := I 0 (i + 1).toNat) (x2 := I 0 (i + 2).toNat) h
  obtain ⟨J1, s1, s2, s3⟩ := smm_vertex hcl
  obtain ⟨y0, b, K, r1, r2, r3, r4, r5⟩ := hrf J1 s2
  have lK := IVx_l (c := c + 1) r5
  rw [← y0] at r1
  refine ⟨K, S', r5, fun r nx => ?_⟩
  refine b5_L_law_470 (by omega) ⟨by omega, by omega⟩ (by omega) ⟨by omega, by omega⟩ s1 ?_
  refine b5_L_law_487 (by omega) ⟨by omega, by omega⟩ (by omega) ⟨by omega, by omega⟩ (Ca.deep r1 (by omega)) ?_
  refine b5_L_law_505 (c_X12_thrown lK) ?_
  refine b5_L_law_511 (fun _ => ?_) (fun q => absurd r2 q)
  refine b5_L_law_518 (fun _ => b5_L_law_535 nx) (fun k0 => ?_)
  refine b5_L_law_523 (by decide) (fun _ => b5_L_law_535 nx) (fun q => absurd ?_ q)
  show p_lcmp (K 191 0) (p_i2l b) = 0
  rw [r4, s3 k0, r3 k0]
  exact lcmp_self _
theorem rd_colour (hi : 0 ≤ i ∧ i + 6 ≤ (L : Int)) (hL : L ≤ 3072) (hcc : c ≤ 900) (hx : IVx c I S) : rdQ5 L c i 538 I S := by
  obtain ⟨T, U, n, P, R, N, h⟩ := hx
  obtain ⟨k, v, J, S', hcl, hrf⟩ := pu_colour (x1 := I 0 (i + 1).toNat) (x2 := I 0 (i + 2).toNat) (x3 := I 0 (i + 3).toNat) h
  obtain ⟨J1, s1, s2, s3⟩ := smm_colour hcl
  obtain ⟨y0, b, K, r1, r2, r3, r4, r5⟩ := hrf J1 s2
  have lK := IVx_l (c := c + 1) r5
  rw [← y0] at r1
  refine ⟨K, S', r5, fun r nx => ?_⟩
  refine b5_L_law_538 (by omega) ⟨by omega, by omega⟩ (by omega) ⟨by omega, by omega⟩ (by omega) ⟨by omega, by omega⟩ s1 ?_
  refine b5_L_law_561 (by omega) ⟨by omega, by omega⟩ (by omega) ⟨by omega, by omega⟩ (by omega) ⟨by omega, by omega⟩ (Ca.deep r1 (by omega)) ?_
  refine b5_L_law_585 (c_X12_thrown lK) ?_
  refine b5_L_law_591 (fun _ => ?_) (fun q => absurd r2 q)
  refine b5_L_law_598 (fun _ => b5_L_law_615 nx) (fun k0 => ?_)
  refine b5_L_law_603 (by decide) (fun _ => b5_L_law_615 nx) (fun q => absurd ?_ q)
  show p_lcmp (K 191 0) (p_i2l b) = 0
  rw [r4, s3 k0, r3 k0]
  exact lcmp_self _
theorem rd_named (hi : 0 ≤ i ∧ i + 6 ≤ (L : Int)) (hL : L ≤ 3072) (hcc : c ≤ 900) (hx : IVx c I S) : rdQ5 L c i 618 I S := by
  obtain ⟨T, U, n, P, R, N, h⟩ := hx
  obtain ⟨k, v, J, S', hcl, hrf⟩ := pu_named (x1 := I 0 (i + 1).toNat) (x2 := I 0 (i + 2).toNat) h (by have := IVx_i h (i + 2).toNat; unfold isI at this; omega)
  obtain ⟨J1, s1, s2, s3⟩ := smm_named hcl
  obtain ⟨y0, b, K, r1, r2, r3, r4, r5⟩ := hrf J1 s2
  have lK := IVx_l (c := c + 1) r5
  rw [← y0] at r1
  refine ⟨K, S', r5, fun r nx => ?_⟩
  refine b5_L_law_618 (by omega) ⟨by omega, by omega⟩ (by omega) ⟨by omega, by omega⟩ s1 ?_
  refine b5_L_law_635 (by omega) ⟨by omega, by omega⟩ (by omega) ⟨by omega, by omega⟩ (Ca.deep r1 (by omega)) ?_
  refine b5_L_law_653 (c_X12_thrown lK) ?_
  refine b5_L_law_659 (fun _ => ?_) (fun q => absurd r2 q)
  refine b5_L_law_666 (fun _ => b5_L_law_683 nx) (fun k0 => ?_)
  refine b5_L_law_671 (by decide) (fun _ => b5_L_law_683 nx) (fun q => absurd ?_ q)
  show p_lcmp (K 191 0) (p_i2l b) = 0
  rw [r4, s3 k0, r3 k0]
  exact lcmp_self _
theorem rd_level (hi : 0 ≤ i ∧ i + 6 ≤ (L : Int)) (hL : L ≤ 3072) (hcc : c ≤ 900) (hx : IVx c I S) : rdQ5 L c i 686 I S := by
  obtain ⟨T, U, n, P, R, N, h⟩ := hx
  obtain ⟨k, v, J, S', hcl, hrf⟩ := pu_level (x1 := I 0 (i + 1).toNat) (x2 := I 0 (i + 2).toNat) h
  obtain ⟨J1, s1, s2, s3⟩ := smm_level hcl
  obtain ⟨y0, b, K, r1, r2, r3, r4, r5⟩ := hrf J1 s2
  have lK := IVx_l (c := c + 1) r5
  rw [← y0] at r1
  refine ⟨K, S', r5, fun r nx => ?_⟩
  refine b5_L_law_686 (by omega) ⟨by omega, by omega⟩ (by omega) ⟨by omega, by omega⟩ s1 ?_
  refine b5_L_law_703 (by omega) ⟨by omega, by omega⟩ (by omega) ⟨by omega, by omega⟩ (Ca.deep r1 (by omega)) ?_
  refine b5_L_law_721 (c_X12_thrown lK) ?_
  refine b5_L_law_727 (fun _ => ?_) (fun q => absurd r2 q)
  refine b5_L_law_734 (fun _ => b5_L_law_751 nx) (fun k0 => ?_)
  refine b5_L_law_739 (by decide) (fun _ => b5_L_law_751 nx) (fun q => absurd ?_ q)
  show p_lcmp (K 191 0) (p_i2l b) = 0
  rw [r4, s3 k0, r3 k0]
  exact lcmp_self _
theorem rd_extend (hi : 0 ≤ i ∧ i + 6 ≤ (L : Int)) (hL : L ≤ 3072) (hcc : c ≤ 900) (hx : IVx c I S) : rdQ5 L c i 754 I S := by
  obtain ⟨T, U, n, P, R, N, h⟩ := hx
  obtain ⟨k, v, J, S', hcl, hrf⟩ := pu_extend (x1 := I 0 (i + 1).toNat) (x2 := I 0 (i + 2).toNat) (x3 := I 0 (i + 3).toNat) h
  obtain ⟨J1, s1, s2, s3⟩ := smm_extend hcl
  obtain ⟨y0, b, K, r1, r2, r3, r4, r5⟩ := hrf J1 s2
  have lK := IVx_l (c := c + 1) r5
  rw [← y0] at r1
  refine ⟨K, S', r5, fun r nx => ?_⟩
  refine b5_L_law_754 (by omega) ⟨by omega, by omega⟩ (by omega) ⟨by omega, by omega⟩ (by omega) ⟨by omega, by omega⟩ s1 ?_
  refine b5_L_law_777 (by omega) ⟨by omega, by omega⟩ (by omega) ⟨by omega, by omega⟩ (by omega) ⟨by omega, by omega⟩ (Ca.deep r1 (by omega)) ?_
  refine b5_L_law_801 (c_X12_thrown lK) ?_
  refine b5_L_law_807 (fun _ => ?_) (fun q => absurd r2 q)
  refine b5_L_law_814 (fun _ => b5_L_law_831 nx) (fun k0 => ?_)
  refine b5_L_law_819 (by decide) (fun _ => b5_L_law_831 nx) (fun q => absurd ?_ q)
  show p_lcmp (K 191 0) (p_i2l b) = 0
  rw [r4, s3 k0, r3 k0]
  exact lcmp_self _
theorem rd_runs (hi : 0 ≤ i ∧ i + 6 ≤ (L : Int)) (hL : L ≤ 3072) (hcc : c ≤ 900) (hx : IVx c I S) : rdQ5 L c i 834 I S := by
  obtain ⟨T, U, n, P, R, N, h⟩ := hx
  obtain ⟨k, v, J, S', hcl, hrf⟩ := pu_runs (x1 := I 0 (i + 1).toNat) (x2 := I 0 (i + 2).toNat) (x3 := I 0 (i + 3).toNat) (x4 := I 0 (i + 4).toNat) h
  obtain ⟨J1, s1, s2, s3⟩ := smm_runs hcl
  obtain ⟨y0, b, K, r1, r2, r3, r4, r5⟩ := hrf J1 s2
  have lK := IVx_l (c := c + 1) r5
  rw [← y0] at r1
  refine ⟨K, S', r5, fun r nx => ?_⟩
  refine b5_L_law_834 (by omega) ⟨by omega, by omega⟩ (by omega) ⟨by omega, by omega⟩ (by omega) ⟨by omega, by omega⟩ (by omega) ⟨by omega, by omega⟩ s1 ?_
  refine b5_L_law_863 (by omega) ⟨by omega, by omega⟩ (by omega) ⟨by omega, by omega⟩ (by omega) ⟨by omega, by omega⟩ (by omega) ⟨by omega, by omega⟩ (Ca.deep r1 (by omega)) ?_
  refine b5_L_law_893 (c_X12_thrown lK) ?_
  refine b5_L_law_899 (fun _ => ?_) (fun q => absurd r2 q)
  refine b5_L_law_906 (fun _ => b5_L_law_923 nx) (fun k0 => ?_)
  refine b5_L_law_911 (by decide) (fun _ => b5_L_law_923 nx) (fun q => absurd ?_ q)
  show p_lcmp (K 191 0) (p_i2l b) = 0
  rw [r4, s3 k0, r3 k0]
  exact lcmp_self _
theorem rd_switched (hi : 0 ≤ i ∧ i + 6 ≤ (L : Int)) (hL : L ≤ 3072) (hcc : c ≤ 900) (hx : IVx c I S) : rdQ5 L c i 926 I S := by
  obtain ⟨T, U, n, P, R, N, h⟩ := hx
  obtain ⟨k, v, J, S', hcl, hrf⟩ := pu_switched (x1 := I 0 (i + 1).toNat) (x2 := I 0 (i + 2).toNat) (x3 := I 0 (i + 3).toNat) (x4 := I 0 (i + 4).toNat) h (IVx_i h _)
  obtain ⟨J1, s1, s2, s3⟩ := smm_switched hcl
  obtain ⟨y0, b, K, r1, r2, r3, r4, r5⟩ := hrf J1 s2
  have lK := IVx_l (c := c + 1) r5
  rw [← y0] at r1
  refine ⟨K, S', r5, fun r nx => ?_⟩
  refine b5_L_law_926 (by omega) ⟨by omega, by omega⟩ (by omega) ⟨by omega, by omega⟩ (by omega) ⟨by omega, by omega⟩ (by omega) ⟨by omega, by omega⟩ s1 ?_
  refine b5_L_law_955 (by omega) ⟨by omega, by omega⟩ (by omega) ⟨by omega, by omega⟩ (by omega) ⟨by omega, by omega⟩ (by omega) ⟨by omega, by omega⟩ (Ca.deep r1 (by omega)) ?_
  refine b5_L_law_985 (c_X12_thrown lK) ?_
  refine b5_L_law_991 (fun _ => ?_) (fun q => absurd r2 q)
  refine b5_L_law_998 (fun _ => b5_L_law_1015 nx) (fun k0 => ?_)
  refine b5_L_law_1003 (by decide) (fun _ => b5_L_law_1015 nx) (fun q => absurd ?_ q)
  show p_lcmp (K 191 0) (p_i2l b) = 0
  rw [r4, s3 k0, r3 k0]
  exact lcmp_self _
theorem rd_set (hi : 0 ≤ i ∧ i + 6 ≤ (L : Int)) (hL : L ≤ 3072) (hcc : c ≤ 900) (hx : IVx c I S) : rdQ5 L c i 1018 I S := by
  obtain ⟨T, U, n, P, R, N, h⟩ := hx
  obtain ⟨k, v, J, S', hcl, hrf⟩ := pu_set (x1 := I 0 (i + 1).toNat) (x2 := I 0 (i + 2).toNat) (x3 := I 0 (i + 3).toNat) h
  obtain ⟨J1, s1, s2, s3⟩ := smm_set hcl
  obtain ⟨y0, b, K, r1, r2, r3, r4, r5⟩ := hrf J1 s2
  have lK := IVx_l (c := c + 1) r5
  rw [← y0] at r1
  refine ⟨K, S', r5, fun r nx => ?_⟩
  refine b5_L_law_1018 (by omega) ⟨by omega, by omega⟩ (by omega) ⟨by omega, by omega⟩ (by omega) ⟨by omega, by omega⟩ s1 ?_
  refine b5_L_law_1041 (by omega) ⟨by omega, by omega⟩ (by omega) ⟨by omega, by omega⟩ (by omega) ⟨by omega, by omega⟩ (Ca.deep r1 (by omega)) ?_
  refine b5_L_law_1065 (c_X12_thrown lK) ?_
  refine b5_L_law_1071 (fun _ => ?_) (fun q => absurd r2 q)
  refine b5_L_law_1078 (fun _ => b5_L_law_1095 nx) (fun k0 => ?_)
  refine b5_L_law_1083 (by decide) (fun _ => b5_L_law_1095 nx) (fun q => absurd ?_ q)
  show p_lcmp (K 191 0) (p_i2l b) = 0
  rw [r4, s3 k0, r3 k0]
  exact lcmp_self _
theorem rd_sends (hi : 0 ≤ i ∧ i + 6 ≤ (L : Int)) (hL : L ≤ 3072) (hcc : c ≤ 900) (hx : IVx c I S) : rdQ5 L c i 1098 I S := by
  obtain ⟨T, U, n, P, R, N, h⟩ := hx
  obtain ⟨k, v, J, S', hcl, hrf⟩ := pu_sends (x1 := I 0 (i + 1).toNat) (x2 := I 0 (i + 2).toNat) (x3 := I 0 (i + 3).toNat) (x4 := I 0 (i + 4).toNat) h
  obtain ⟨J1, s1, s2, s3⟩ := smm_sends hcl
  obtain ⟨y0, b, K, r1, r2, r3, r4, r5⟩ := hrf J1 s2
  have lK := IVx_l (c := c + 1) r5
  rw [← y0] at r1
  refine ⟨K, S', r5, fun r nx => ?_⟩
  refine b5_L_law_1098 (by omega) ⟨by omega, by omega⟩ (by omega) ⟨by omega, by omega⟩ (by omega) ⟨by omega, by omega⟩ (by omega) ⟨by omega, by omega⟩ s1 ?_
  refine b5_L_law_1127 (by omega) ⟨by omega, by omega⟩ (by omega) ⟨by omega, by omega⟩ (by omega) ⟨by omega, by omega⟩ (by omega) ⟨by omega, by omega⟩ (Ca.deep r1 (by omega)) ?_
  refine b5_L_law_1157 (c_X12_thrown lK) ?_
  refine b5_L_law_1163 (fun _ => ?_) (fun q => absurd r2 q)
  refine b5_L_law_1170 (fun _ => b5_L_law_1187 nx) (fun k0 => ?_)
  refine b5_L_law_1175 (by decide) (fun _ => b5_L_law_1187 nx) (fun q => absurd ?_ q)
  show p_lcmp (K 191 0) (p_i2l b) = 0
  rw [r4, s3 k0, r3 k0]
  exact lcmp_self _
theorem rd_hub (hi : 0 ≤ i ∧ i + 6 ≤ (L : Int)) (hL : L ≤ 3072) (hcc : c ≤ 900) (hx : IVx c I S) : rdQ5 L c i 1190 I S := by
  obtain ⟨T, U, n, P, R, N, h⟩ := hx
  obtain ⟨k, v, J, S', hcl, hrf⟩ := pu_hub (x1 := I 0 (i + 1).toNat) (x2 := I 0 (i + 2).toNat) (x3 := I 0 (i + 3).toNat) h
  obtain ⟨J1, s1, s2, s3⟩ := smm_hub hcl
  obtain ⟨y0, b, K, r1, r2, r3, r4, r5⟩ := hrf J1 s2
  have lK := IVx_l (c := c + 1) r5
  rw [← y0] at r1
  refine ⟨K, S', r5, fun r nx => ?_⟩
  refine b5_L_law_1190 (by omega) ⟨by omega, by omega⟩ (by omega) ⟨by omega, by omega⟩ (by omega) ⟨by omega, by omega⟩ s1 ?_
  refine b5_L_law_1213 (by omega) ⟨by omega, by omega⟩ (by omega) ⟨by omega, by omega⟩ (by omega) ⟨by omega, by omega⟩ (Ca.deep r1 (by omega)) ?_
  refine b5_L_law_1237 (c_X12_thrown lK) ?_
  refine b5_L_law_1243 (fun _ => ?_) (fun q => absurd r2 q)
  refine b5_L_law_1250 (fun _ => b5_L_law_1267 nx) (fun k0 => ?_)
  refine b5_L_law_1255 (by decide) (fun _ => b5_L_law_1267 nx) (fun q => absurd ?_ q)
  show p_lcmp (K 191 0) (p_i2l b) = 0
  rw [r4, s3 k0, r3 k0]
  exact lcmp_self _
theorem rd_cases (hi : 0 ≤ i ∧ i + 6 ≤ (L : Int)) (hL : L ≤ 3072) (hcc : c ≤ 900) (hx : IVx c I S) : rdQ5 L c i 1270 I S := by
  obtain ⟨T, U, n, P, R, N, h⟩ := hx
  obtain ⟨k, v, J, S', hcl, hrf⟩ := pu_cases (x1 := I 0 (i + 1).toNat) (x2 := I 0 (i + 2).toNat) h
  obtain ⟨J1, s1, s2, s3⟩ := smm_cases hcl
  obtain ⟨y0, b, K, r1, r2, r3, r4, r5⟩ := hrf J1 s2
  have lK := IVx_l (c := c + 1) r5
  rw [← y0] at r1
  refine ⟨K, S', r5, fun r nx => ?_⟩
  refine b5_L_law_1270 (by omega) ⟨by omega, by omega⟩ (by omega) ⟨by omega, by omega⟩ s1 ?_
  refine b5_L_law_1287 (by omega) ⟨by omega, by omega⟩ (by omega) ⟨by omega, by omega⟩ (Ca.deep r1 (by omega)) ?_
  refine b5_L_law_1305 (c_X12_thrown lK) ?_
  refine b5_L_law_1311 (fun _ => ?_) (fun q => absurd r2 q)
  refine b5_L_law_1318 (fun _ => b5_L_law_1335 nx) (fun k0 => ?_)
  refine b5_L_law_1323 (by decide) (fun _ => b5_L_law_1335 nx) (fun q => absurd ?_ q)
  show p_lcmp (K 191 0) (p_i2l b) = 0
  rw [r4, s3 k0, r3 k0]
  exact lcmp_self _
theorem rd_spot (hi : 0 ≤ i ∧ i + 6 ≤ (L : Int)) (hL : L ≤ 3072) (hcc : c ≤ 900) (hx : IVx c I S) : rdQ5 L c i 1338 I S := by
  obtain ⟨T, U, n, P, R, N, h⟩ := hx
  obtain ⟨k, v, J, S', hcl, hrf⟩ := pu_spot (x1 := I 0 (i + 1).toNat) (x2 := I 0 (i + 2).toNat) h
  obtain ⟨J1, s1, s2, s3⟩ := smm_spot hcl
  obtain ⟨y0, b, K, r1, r2, r3, r4, r5⟩ := hrf J1 s2
  have lK := IVx_l (c := c + 1) r5
  rw [← y0] at r1
  refine ⟨K, S', r5, fun r nx => ?_⟩
  refine b5_L_law_1338 (by omega) ⟨by omega, by omega⟩ (by omega) ⟨by omega, by omega⟩ s1 ?_
  refine b5_L_law_1355 (by omega) ⟨by omega, by omega⟩ (by omega) ⟨by omega, by omega⟩ (Ca.deep r1 (by omega)) ?_
  refine b5_L_law_1373 (c_X12_thrown lK) ?_
  refine b5_L_law_1379 (fun _ => ?_) (fun q => absurd r2 q)
  refine b5_L_law_1386 (fun _ => b5_L_law_1403 nx) (fun k0 => ?_)
  refine b5_L_law_1391 (by decide) (fun _ => b5_L_law_1403 nx) (fun q => absurd ?_ q)
  show p_lcmp (K 191 0) (p_i2l b) = 0
  rw [r4, s3 k0, r3 k0]
  exact lcmp_self _
theorem rd_scaled (hi : 0 ≤ i ∧ i + 6 ≤ (L : Int)) (hL : L ≤ 3072) (hcc : c ≤ 900) (hx : IVx c I S) : rdQ5 L c i 1406 I S := by
  obtain ⟨T, U, n, P, R, N, h⟩ := hx
  obtain ⟨k, v, J, S', hcl, hrf⟩ := pu_scaled (x1 := I 0 (i + 1).toNat) (x2 := I 0 (i + 2).toNat) h
  obtain ⟨J1, s1, s2, s3⟩ := smm_scaled hcl
  obtain ⟨y0, b, K, r1, r2, r3, r4, r5⟩ := hrf J1 s2
  have lK := IVx_l (c := c + 1) r5
  rw [← y0] at r1
  refine ⟨K, S', r5, fun r nx => ?_⟩
  refine b5_L_law_1406 (by omega) ⟨by omega, by omega⟩ (by omega) ⟨by omega, by omega⟩ s1 ?_
  refine b5_L_law_1423 (by omega) ⟨by omega, by omega⟩ (by omega) ⟨by omega, by omega⟩ (Ca.deep r1 (by omega)) ?_
  refine b5_L_law_1441 (c_X12_thrown lK) ?_
  refine b5_L_law_1447 (fun _ => ?_) (fun q => absurd r2 q)
  refine b5_L_law_1454 (fun _ => b5_L_law_1471 nx) (fun k0 => ?_)
  refine b5_L_law_1459 (by decide) (fun _ => b5_L_law_1471 nx) (fun q => absurd ?_ q)
  show p_lcmp (K 191 0) (p_i2l b) = 0
  rw [r4, s3 k0, r3 k0]
  exact lcmp_self _
theorem rd_rule (hi : 0 ≤ i ∧ i + 6 ≤ (L : Int)) (hL : L ≤ 3072) (hcc : c ≤ 900) (hx : IVx c I S) : rdQ5 L c i 1474 I S := by
  obtain ⟨T, U, n, P, R, N, h⟩ := hx
  obtain ⟨k, v, J, S', hcl, hrf⟩ := pu_rule (x1 := I 0 (i + 1).toNat) (x2 := I 0 (i + 2).toNat) h
  obtain ⟨J1, s1, s2, s3⟩ := smm_rule hcl
  obtain ⟨y0, b, K, r1, r2, r3, r4, r5⟩ := hrf J1 s2
  have lK := IVx_l (c := c + 1) r5
  rw [← y0] at r1
  refine ⟨K, S', r5, fun r nx => ?_⟩
  refine b5_L_law_1474 (by omega) ⟨by omega, by omega⟩ (by omega) ⟨by omega, by omega⟩ s1 ?_
  refine b5_L_law_1491 (by omega) ⟨by omega, by omega⟩ (by omega) ⟨by omega, by omega⟩ (Ca.deep r1 (by omega)) ?_
  refine b5_L_law_1509 (c_X12_thrown lK) ?_
  refine b5_L_law_1515 (fun _ => ?_) (fun q => absurd r2 q)
  refine b5_L_law_1522 (fun _ => b5_L_law_1539 nx) (fun k0 => ?_)
  refine b5_L_law_1527 (by decide) (fun _ => b5_L_law_1539 nx) (fun q => absurd ?_ q)
  show p_lcmp (K 191 0) (p_i2l b) = 0
  rw [r4, s3 k0, r3 k0]
  exact lcmp_self _
theorem rd_paint (hi : 0 ≤ i ∧ i + 6 ≤ (L : Int)) (hL : L ≤ 3072) (hcc : c ≤ 900) (hx : IVx c I S) : rdQ5 L c i 1542 I S := by
  obtain ⟨T, U, n, P, R, N, h⟩ := hx
  obtain ⟨k, v, J, S', hcl, hrf⟩ := pu_paint (x1 := I 0 (i + 1).toNat) (x2 := I 0 (i + 2).toNat) h (by omega)
  obtain ⟨J1, s1, s2, s3⟩ := smm_paint hcl
  obtain ⟨y0, b, K, r1, r2, r3, r4, r5⟩ := hrf J1 s2
  have lK := IVx_l (c := c + 1) r5
  rw [← y0] at r1
  refine ⟨K, S', r5, fun r nx => ?_⟩
  refine b5_L_law_1542 (by omega) ⟨by omega, by omega⟩ (by omega) ⟨by omega, by omega⟩ s1 ?_
  refine b5_L_law_1559 (by omega) ⟨by omega, by omega⟩ (by omega) ⟨by omega, by omega⟩ (Ca.deep r1 (by omega)) ?_
  refine b5_L_law_1577 (c_X12_thrown lK) ?_
  refine b5_L_law_1583 (fun _ => ?_) (fun q => absurd r2 q)
  refine b5_L_law_1590 (fun _ => b5_L_law_1607 nx) (fun k0 => ?_)
  refine b5_L_law_1595 (by decide) (fun _ => b5_L_law_1607 nx) (fun q => absurd ?_ q)
  show p_lcmp (K 191 0) (p_i2l b) = 0
  rw [r4, s3 k0, r3 k0]
  exact lcmp_self _
theorem rd_wash (hi : 0 ≤ i ∧ i + 6 ≤ (L : Int)) (hL : L ≤ 3072) (hcc : c ≤ 900) (hx : IVx c I S) : rdQ5 L c i 1610 I S := by
  obtain ⟨T, U, n, P, R, N, h⟩ := hx
  obtain ⟨k, v, J, S', hcl, hrf⟩ := pu_wash (x1 := I 0 (i + 1).toNat) h (by omega)
  obtain ⟨J1, s1, s2, s3⟩ := smm_wash hcl
  obtain ⟨y0, b, K, r1, r2, r3, r4, r5⟩ := hrf J1 s2
  have lK := IVx_l (c := c + 1) r5
  rw [← y0] at r1
  refine ⟨K, S', r5, fun r nx => ?_⟩
  refine b5_L_law_1610 (by omega) ⟨by omega, by omega⟩ s1 ?_
  refine b5_L_law_1621 (by omega) ⟨by omega, by omega⟩ (Ca.deep r1 (by omega)) ?_
  refine b5_L_law_1633 (c_X12_thrown lK) ?_
  refine b5_L_law_1639 (fun _ => ?_) (fun q => absurd r2 q)
  refine b5_L_law_1646 (fun _ => b5_L_law_1663 nx) (fun k0 => ?_)
  refine b5_L_law_1651 (by decide) (fun _ => b5_L_law_1663 nx) (fun q => absurd ?_ q)
  show p_lcmp (K 191 0) (p_i2l b) = 0
  rw [r4, s3 k0, r3 k0]
  exact lcmp_self _
theorem rd_swap (hi : 0 ≤ i ∧ i + 6 ≤ (L : Int)) (hL : L ≤ 3072) (hcc : c ≤ 900) (hx : IVx c I S) : rdQ5 L c i 1666 I S := by
  obtain ⟨T, U, n, P, R, N, h⟩ := hx
  obtain ⟨k, v, J, S', hcl, hrf⟩ := pu_swap (x1 := I 0 (i + 1).toNat) (x2 := I 0 (i + 2).toNat) h (by omega)
  obtain ⟨J1, s1, s2, s3⟩ := smm_swap hcl
  obtain ⟨y0, b, K, r1, r2, r3, r4, r5⟩ := hrf J1 s2
  have lK := IVx_l (c := c + 1) r5
  rw [← y0] at r1
  refine ⟨K, S', r5, fun r nx => ?_⟩
  refine b5_L_law_1666 (by omega) ⟨by omega, by omega⟩ (by omega) ⟨by omega, by omega⟩ s1 ?_
  refine b5_L_law_1683 (by omega) ⟨by omega, by omega⟩ (by omega) ⟨by omega, by omega⟩ (Ca.deep r1 (by omega)) ?_
  refine b5_L_law_1701 (c_X12_thrown lK) ?_
  refine b5_L_law_1707 (fun _ => ?_) (fun q => absurd r2 q)
  refine b5_L_law_1714 (fun _ => b5_L_law_1731 nx) (fun k0 => ?_)
  refine b5_L_law_1719 (by decide) (fun _ => b5_L_law_1731 nx) (fun q => absurd ?_ q)
  show p_lcmp (K 191 0) (p_i2l b) = 0
  rw [r4, s3 k0, r3 k0]
  exact lcmp_self _
theorem rd_tune (hi : 0 ≤ i ∧ i + 6 ≤ (L : Int)) (hL : L ≤ 3072) (hcc : c ≤ 900) (hx : IVx c I S) : rdQ5 L c i 1734 I S := by
  obtain ⟨T, U, n, P, R, N, h⟩ := hx
  obtain ⟨k, v, J, S', hcl, hrf⟩ := pu_tune (x1 := I 0 (i + 1).toNat) (x2 := I 0 (i + 2).toNat) h (by omega)
  obtain ⟨J1, s1, s2, s3⟩ := smm_tune hcl
  obtain ⟨y0, b, K, r1, r2, r3, r4, r5⟩ := hrf J1 s2
  have lK := IVx_l (c := c + 1) r5
  rw [← y0] at r1
  refine ⟨K, S', r5, fun r nx => ?_⟩
  refine b5_L_law_1734 (by omega) ⟨by omega, by omega⟩ (by omega) ⟨by omega, by omega⟩ s1 ?_
  refine b5_L_law_1751 (by omega) ⟨by omega, by omega⟩ (by omega) ⟨by omega, by omega⟩ (Ca.deep r1 (by omega)) ?_
  refine b5_L_law_1769 (c_X12_thrown lK) ?_
  refine b5_L_law_1775 (fun _ => ?_) (fun q => absurd r2 q)
  refine b5_L_law_1782 (fun _ => b5_L_law_1799 nx) (fun k0 => ?_)
  refine b5_L_law_1787 (by decide) (fun _ => b5_L_law_1799 nx) (fun q => absurd ?_ q)
  show p_lcmp (K 191 0) (p_i2l b) = 0
  rw [r4, s3 k0, r3 k0]
  exact lcmp_self _
theorem rd_undo (hi : 0 ≤ i ∧ i + 6 ≤ (L : Int)) (hL : L ≤ 3072) (hcc : c ≤ 900) (hx : IVx c I S) : rdQ5 L c i 1802 I S := by
  obtain ⟨T, U, n, P, R, N, h⟩ := hx
  obtain ⟨k, v, J, S', hcl, hrf⟩ := pu_undo  h
  have hcl : k = 0 ∧ Ca 60 mX11_undo [vR (some (21, 0, 31))] (I, S) (.inl (some (vI v))) (J, S') := hcl.elim id (fun q => by
    obtain ⟨e, ke, kn, _⟩ := q
    exact (ecZ_e (by rw [← ke]; exact kn)).elim)
  obtain ⟨k0, hc⟩ := hcl
  obtain ⟨y0, b, K, r1, r2, r3, r4, r5⟩ := hrf J (fun _ _ => rfl)
  refine ⟨K, S', r5, fun r nx => ?_⟩
  refine b5_L_law_1802  (Ca.deep hc (by omega)) ?_
  refine b5_L_law_1806  (Ca.deep r1 (by omega)) ?_
  exact b5_L_law_1810 (fun _ => nx) (fun q => absurd (r3 k0).symm q)
theorem rd_chain (hi : 0 ≤ i ∧ i + 6 ≤ (L : Int)) (hL : L ≤ 3072) (hcc : c ≤ 900) (hx : IVx c I S) : rdQ5 L c i 1815 I S := by
  obtain ⟨T, U, n, P, R, N, h⟩ := hx
  obtain ⟨k, v, J, S', hcl, hrf⟩ := pu_chain (x1 := I 0 (i + 1).toNat) (x2 := I 0 (i + 2).toNat) h
  obtain ⟨J1, s1, s2, s3⟩ := smm_chain hcl
  obtain ⟨y0, b, K, r1, r2, r3, r4, r5⟩ := hrf J1 s2
  have lK := IVx_l (c := c + 1) r5
  rw [← y0] at r1
  refine ⟨K, S', r5, fun r nx => ?_⟩
  refine b5_L_law_1815 (by omega) ⟨by omega, by omega⟩ (by omega) ⟨by omega, by omega⟩ s1 ?_
  refine b5_L_law_1832 (by omega) ⟨by omega, by omega⟩ (by omega) ⟨by omega, by omega⟩ (Ca.deep r1 (by omega)) ?_
  refine b5_L_law_1850 (c_X12_thrown lK) ?_
  refine b5_L_law_1856 (fun _ => ?_) (fun q => absurd r2 q)
  refine b5_L_law_1863 (fun _ => b5_L_law_1880 nx) (fun k0 => ?_)
  refine b5_L_law_1868 (by decide) (fun _ => b5_L_law_1880 nx) (fun q => absurd ?_ q)
  show p_lcmp (K 191 0) (p_i2l b) = 0
  rw [r4, s3 k0, r3 k0]
  exact lcmp_self _
theorem rd_solve (hi : 0 ≤ i ∧ i + 6 ≤ (L : Int)) (hL : L ≤ 3072) (hcc : c ≤ 900) (hx : IVx c I S) : rdQ5 L c i 1883 I S := by
  obtain ⟨T, U, n, P, R, N, h⟩ := hx
  obtain ⟨k, v, J, S', hcl, hrf⟩ := pu_solve (x1 := I 0 (i + 1).toNat) h
  obtain ⟨J1, s1, s2, s3⟩ := smm_solve hcl
  obtain ⟨y0, b, K, r1, r2, r3, r4, r5⟩ := hrf J1 s2
  have lK := IVx_l (c := c + 1) r5
  rw [← y0] at r1
  refine ⟨K, S', r5, fun r nx => ?_⟩
  refine b5_L_law_1883 (by omega) ⟨by omega, by omega⟩ s1 ?_
  refine b5_L_law_1894 (by omega) ⟨by omega, by omega⟩ (Ca.deep r1 (by omega)) ?_
  refine b5_L_law_1906 (c_X12_thrown lK) ?_
  refine b5_L_law_1912 (fun _ => ?_) (fun q => absurd r2 q)
  refine b5_L_law_1919 (fun _ => b5_L_law_1936 nx) (fun k0 => ?_)
  refine b5_L_law_1924 (by decide) (fun _ => b5_L_law_1936 nx) (fun q => absurd ?_ q)
  show p_lcmp (K 191 0) (p_i2l b) = 0
  rw [r4, s3 k0, r3 k0]
  exact lcmp_self _
theorem rd_ways (hi : 0 ≤ i ∧ i + 6 ≤ (L : Int)) (hL : L ≤ 3072) (hcc : c ≤ 900) (hx : IVx c I S) : rdQ5 L c i 1939 I S := by
  obtain ⟨T, U, n, P, R, N, h⟩ := hx
  obtain ⟨k, v, J, S', hcl, hrf⟩ := pu_ways  h
  have hcl : k = 0 ∧ Ca 60 mX11_ways [vR (some (21, 0, 31))] (I, S) (.inl (some (vI v))) (J, S') := hcl.elim id (fun q => by
    obtain ⟨e, ke, kn, _⟩ := q
    exact (ecZ_e (by rw [← ke]; exact kn)).elim)
  obtain ⟨k0, hc⟩ := hcl
  obtain ⟨y0, b, K, r1, r2, r3, r4, r5⟩ := hrf J (fun _ _ => rfl)
  refine ⟨K, S', r5, fun r nx => ?_⟩
  refine b5_L_law_1939  (Ca.deep hc (by omega)) ?_
  refine b5_L_law_1943  (Ca.deep r1 (by omega)) ?_
  exact b5_L_law_1947 (fun _ => nx) (fun q => absurd (r3 k0).symm q)
theorem rd_free (hi : 0 ≤ i ∧ i + 6 ≤ (L : Int)) (hL : L ≤ 3072) (hcc : c ≤ 900) (hx : IVx c I S) : rdQ5 L c i 1952 I S := by
  obtain ⟨T, U, n, P, R, N, h⟩ := hx
  obtain ⟨k, v, J, S', hcl, hrf⟩ := pu_free (x1 := I 0 (i + 1).toNat) (x2 := I 0 (i + 2).toNat) h
  obtain ⟨J1, s1, s2, s3⟩ := smm_free hcl
  obtain ⟨y0, b, K, r1, r2, r3, r4, r5⟩ := hrf J1 s2
  have lK := IVx_l (c := c + 1) r5
  rw [← y0] at r1
  refine ⟨K, S', r5, fun r nx => ?_⟩
  refine b5_L_law_1952 (by omega) ⟨by omega, by omega⟩ (by omega) ⟨by omega, by omega⟩ s1 ?_
  refine b5_L_law_1969 (by omega) ⟨by omega, by omega⟩ (by omega) ⟨by omega, by omega⟩ (Ca.deep r1 (by omega)) ?_
  refine b5_L_law_1987 (c_X12_thrown lK) ?_
  refine b5_L_law_1993 (fun _ => ?_) (fun q => absurd r2 q)
  refine b5_L_law_2000 (fun _ => b5_L_law_2017 nx) (fun k0 => ?_)
  refine b5_L_law_2005 (by decide) (fun _ => b5_L_law_2017 nx) (fun q => absurd ?_ q)
  show p_lcmp (K 191 0) (p_i2l b) = 0
  rw [r4, s3 k0, r3 k0]
  exact lcmp_self _
theorem rd_play (hi : 0 ≤ i ∧ i + 6 ≤ (L : Int)) (hL : L ≤ 3072) (hcc : c ≤ 900) (hx : IVx c I S) : rdQ5 L c i 2020 I S := by
  obtain ⟨T, U, n, P, R, N, h⟩ := hx
  obtain ⟨k, v, J, S', hcl, hrf⟩ := pu_play (x1 := I 0 (i + 1).toNat) h
  obtain ⟨J1, s1, s2, s3⟩ := smm_play hcl
  obtain ⟨y0, b, K, r1, r2, r3, r4, r5⟩ := hrf J1 s2
  have lK := IVx_l (c := c + 1) r5
  rw [← y0] at r1
  refine ⟨K, S', r5, fun r nx => ?_⟩
  refine b5_L_law_2020 (by omega) ⟨by omega, by omega⟩ s1 ?_
  refine b5_L_law_2031 (by omega) ⟨by omega, by omega⟩ (Ca.deep r1 (by omega)) ?_
  refine b5_L_law_2043 (c_X12_thrown lK) ?_
  refine b5_L_law_2049 (fun _ => ?_) (fun q => absurd r2 q)
  refine b5_L_law_2056 (fun _ => b5_L_law_2073 nx) (fun k0 => ?_)
  refine b5_L_law_2061 (by decide) (fun _ => b5_L_law_2073 nx) (fun q => absurd ?_ q)
  show p_lcmp (K 191 0) (p_i2l b) = 0
  rw [r4, s3 k0, r3 k0]
  exact lcmp_self _
theorem rd_plan (hi : 0 ≤ i ∧ i + 6 ≤ (L : Int)) (hL : L ≤ 3072) (hcc : c ≤ 900) (hx : IVx c I S) : rdQ5 L c i 2076 I S := by
  obtain ⟨T, U, n, P, R, N, h⟩ := hx
  obtain ⟨k, v, J, S', hcl, hrf⟩ := pu_plan (x1 := I 0 (i + 1).toNat) h (by omega)
  obtain ⟨J1, s1, s2, s3⟩ := smm_plan hcl
  obtain ⟨y0, b, K, r1, r2, r3, r4, r5⟩ := hrf J1 s2
  have lK := IVx_l (c := c + 1) r5
  rw [← y0] at r1
  refine ⟨K, S', r5, fun r nx => ?_⟩
  refine b5_L_law_2076 (by omega) ⟨by omega, by omega⟩ s1 ?_
  refine b5_L_law_2087 (by omega) ⟨by omega, by omega⟩ (Ca.deep r1 (by omega)) ?_
  refine b5_L_law_2099 (c_X12_thrown lK) ?_
  refine b5_L_law_2105 (fun _ => ?_) (fun q => absurd r2 q)
  refine b5_L_law_2112 (fun _ => b5_L_law_2129 nx) (fun k0 => ?_)
  refine b5_L_law_2117 (by decide) (fun _ => b5_L_law_2129 nx) (fun q => absurd ?_ q)
  show p_lcmp (K 191 0) (p_i2l b) = 0
  rw [r4, s3 k0, r3 k0]
  exact lcmp_self _
theorem rd_planned (hi : 0 ≤ i ∧ i + 6 ≤ (L : Int)) (hL : L ≤ 3072) (hcc : c ≤ 900) (hx : IVx c I S) : rdQ5 L c i 2132 I S := by
  obtain ⟨T, U, n, P, R, N, h⟩ := hx
  obtain ⟨k, v, J, S', hcl, hrf⟩ := pu_planned (x1 := I 0 (i + 1).toNat) h
  obtain ⟨J1, s1, s2, s3⟩ := smm_planned hcl
  obtain ⟨y0, b, K, r1, r2, r3, r4, r5⟩ := hrf J1 s2
  have lK := IVx_l (c := c + 1) r5
  rw [← y0] at r1
  refine ⟨K, S', r5, fun r nx => ?_⟩
  refine b5_L_law_2132 (by omega) ⟨by omega, by omega⟩ s1 ?_
  refine b5_L_law_2143 (by omega) ⟨by omega, by omega⟩ (Ca.deep r1 (by omega)) ?_
  refine b5_L_law_2155 (c_X12_thrown lK) ?_
  refine b5_L_law_2161 (fun _ => ?_) (fun q => absurd r2 q)
  refine b5_L_law_2168 (fun _ => b5_L_law_2185 nx) (fun k0 => ?_)
  refine b5_L_law_2173 (by decide) (fun _ => b5_L_law_2185 nx) (fun q => absurd ?_ q)
  show p_lcmp (K 191 0) (p_i2l b) = 0
  rw [r4, s3 k0, r3 k0]
  exact lcmp_self _
theorem rd_note (hi : 0 ≤ i ∧ i + 6 ≤ (L : Int)) (hL : L ≤ 3072) (hcc : c ≤ 900) (hx : IVx c I S) : rdQ5 L c i 2188 I S := by
  obtain ⟨T, U, n, P, R, N, h⟩ := hx
  obtain ⟨k, v, J, S', hcl, hrf⟩ := pu_note (x1 := I 0 (i + 1).toNat) (x2 := I 0 (i + 2).toNat) h (by omega)
  obtain ⟨J1, s1, s2, s3⟩ := smm_note hcl
  obtain ⟨y0, b, K, r1, r2, r3, r4, r5⟩ := hrf J1 s2
  have lK := IVx_l (c := c + 1) r5
  rw [← y0] at r1
  refine ⟨K, S', r5, fun r nx => ?_⟩
  refine b5_L_law_2188 (by omega) ⟨by omega, by omega⟩ (by omega) ⟨by omega, by omega⟩ s1 ?_
  refine b5_L_law_2205 (by omega) ⟨by omega, by omega⟩ (by omega) ⟨by omega, by omega⟩ (Ca.deep r1 (by omega)) ?_
  refine b5_L_law_2223 (c_X12_thrown lK) ?_
  refine b5_L_law_2229 (fun _ => ?_) (fun q => absurd r2 q)
  refine b5_L_law_2236 (fun _ => b5_L_law_2253 nx) (fun k0 => ?_)
  refine b5_L_law_2241 (by decide) (fun _ => b5_L_law_2253 nx) (fun q => absurd ?_ q)
  show p_lcmp (K 191 0) (p_i2l b) = 0
  rw [r4, s3 k0, r3 k0]
  exact lcmp_self _
theorem rd_forget (hi : 0 ≤ i ∧ i + 6 ≤ (L : Int)) (hL : L ≤ 3072) (hcc : c ≤ 900) (hx : IVx c I S) : rdQ5 L c i 2256 I S := by
  obtain ⟨T, U, n, P, R, N, h⟩ := hx
  obtain ⟨J, hc, hrf⟩ := pu_forget  h
  obtain ⟨K, r1, r2, r5⟩ := hrf J (fun _ _ => rfl)
  refine ⟨K, S, r5, fun r nx => ?_⟩
  exact b5_L_law_2256 (Ca.deep hc (by omega)) (b5_L_law_2260 (Ca.deep r1 (by omega)) (b5_L_law_2264 nx))
theorem rd_meant (hi : 0 ≤ i ∧ i + 6 ≤ (L : Int)) (hL : L ≤ 3072) (hcc : c ≤ 900) (hx : IVx c I S) : rdQ5 L c i 2267 I S := by
  obtain ⟨T, U, n, P, R, N, h⟩ := hx
  obtain ⟨k, v, J, S', hcl, hrf⟩ := pu_meant (x1 := I 0 (i + 1).toNat) h
  obtain ⟨J1, s1, s2, s3⟩ := smm_meant hcl
  obtain ⟨y0, b, K, r1, r2, r3, r4, r5⟩ := hrf J1 s2
  have lK := IVx_l (c := c + 1) r5
  rw [← y0] at r1
  refine ⟨K, S', r5, fun r nx => ?_⟩
  refine b5_L_law_2267 (by omega) ⟨by omega, by omega⟩ s1 ?_
  refine b5_L_law_2278 (by omega) ⟨by omega, by omega⟩ (Ca.deep r1 (by omega)) ?_
  refine b5_L_law_2290 (c_X12_thrown lK) ?_
  refine b5_L_law_2296 (fun _ => ?_) (fun q => absurd r2 q)
  refine b5_L_law_2303 (fun _ => b5_L_law_2320 nx) (fun k0 => ?_)
  refine b5_L_law_2308 (by decide) (fun _ => b5_L_law_2320 nx) (fun q => absurd ?_ q)
  show p_lcmp (K 191 0) (p_i2l b) = 0
  rw [r4, s3 k0, r3 k0]
  exact lcmp_self _
theorem rd_years (hi : 0 ≤ i ∧ i + 6 ≤ (L : Int)) (hL : L ≤ 3072) (hcc : c ≤ 900) (hx : IVx c I S) : rdQ5 L c i 2323 I S := by
  obtain ⟨T, U, n, P, R, N, h⟩ := hx
  obtain ⟨k, v, J, S', hcl, hrf⟩ := pu_years (x1 := I 0 (i + 1).toNat) (x2 := I 0 (i + 2).toNat) (x3 := I 0 (i + 3).toNat) h
  obtain ⟨J1, s1, s2, s3⟩ := smm_years hcl
  obtain ⟨y0, b, K, r1, r2, r3, r4, r5⟩ := hrf J1 s2
  have lK := IVx_l (c := c + 1) r5
  rw [← y0] at r1
  refine ⟨K, S', r5, fun r nx => ?_⟩
  refine b5_L_law_2323 (by omega) ⟨by omega, by omega⟩ (by omega) ⟨by omega, by omega⟩ (by omega) ⟨by omega, by omega⟩ s1 ?_
  refine b5_L_law_2346 (by omega) ⟨by omega, by omega⟩ (by omega) ⟨by omega, by omega⟩ (by omega) ⟨by omega, by omega⟩ (Ca.deep r1 (by omega)) ?_
  refine b5_L_law_2370 (c_X12_thrown lK) ?_
  refine b5_L_law_2376 (fun _ => ?_) (fun q => absurd r2 q)
  refine b5_L_law_2383 (fun _ => b5_L_law_2400 nx) (fun k0 => ?_)
  refine b5_L_law_2388 (by decide) (fun _ => b5_L_law_2400 nx) (fun q => absurd ?_ q)
  show p_lcmp (K 191 0) (p_i2l b) = 0
  rw [r4, s3 k0, r3 k0]
  exact lcmp_self _
theorem rd_image (hi : 0 ≤ i ∧ i + 6 ≤ (L : Int)) (hL : L ≤ 3072) (hcc : c ≤ 900) (hx : IVx c I S) : rdQ5 L c i 2403 I S := by
  obtain ⟨T, U, n, P, R, N, h⟩ := hx
  obtain ⟨J, hc, hrf⟩ := pu_image  h
  obtain ⟨K, r1, r2, r5⟩ := hrf J (fun _ _ => rfl)
  refine ⟨K, S, r5, fun r nx => ?_⟩
  exact b5_L_law_2403 (Ca.deep hc (by omega)) (b5_L_law_2407 (Ca.deep r1 (by omega)) (b5_L_law_2411 nx))
theorem rd_restore (hi : 0 ≤ i ∧ i + 6 ≤ (L : Int)) (hL : L ≤ 3072) (hcc : c ≤ 900) (hx : IVx c I S) : rdQ5 L c i 2414 I S := by
  obtain ⟨T, U, n, P, R, N, h⟩ := hx
  obtain ⟨k, v, J, S', hcl, hrf⟩ := pu_restore  h
  have hcl : k = 0 ∧ Ca 60 mX11_restore [vR (some (21, 0, 31))] (I, S) (.inl (some (vI v))) (J, S') := hcl.elim id (fun q => by
    obtain ⟨e, ke, kn, _⟩ := q
    exact (ecZ_e (by rw [← ke]; exact kn)).elim)
  obtain ⟨k0, hc⟩ := hcl
  obtain ⟨y0, b, K, r1, r2, r3, r4, r5⟩ := hrf J (fun _ _ => rfl)
  refine ⟨K, S', r5, fun r nx => ?_⟩
  refine b5_L_law_2414  (Ca.deep hc (by omega)) ?_
  refine b5_L_law_2418  (Ca.deep r1 (by omega)) ?_
  exact b5_L_law_2422 (fun _ => nx) (fun q => absurd (r3 k0).symm q)
theorem sl_0 {r : PO × PM} (hi : 0 ≤ i ∧ i < (L : Int)) (hw : p_and (I 0 i.toNat) 63 = 0) (k : Ev 62 mL_law (204, lwL L i, [], (I, S)) r) : Ev 62 mL_law (33, lwL L i, [], (I, S)) r :=
  b5_L_law_33 hi (fun _ => k) (fun q => absurd (hw.symm.trans q) (by decide)) (fun q => absurd (hw.symm.trans q) (by decide)) (fun q => absurd (hw.symm.trans q) (by decide)) (fun q => absurd (hw.symm.trans q) (by decide)) (fun q => absurd (hw.symm.trans q) (by decide)) (fun q => absurd (hw.symm.trans q) (by decide)) (fun q => absurd (hw.symm.trans q) (by decide)) (fun q => absurd (hw.symm.trans q) (by decide)) (fun q => absurd (hw.symm.trans q) (by decide)) (fun q => absurd (hw.symm.trans q) (by decide)) (fun q => absurd (hw.symm.trans q) (by decide)) (fun q => absurd (hw.symm.trans q) (by decide)) (fun q => absurd (hw.symm.trans q) (by decide)) (fun q => absurd (hw.symm.trans q) (by decide)) (fun q => absurd (hw.symm.trans q) (by decide)) (fun q => absurd (hw.symm.trans q) (by decide)) (fun q => absurd (hw.symm.trans q) (by decide)) (fun q => absurd (hw.symm.trans q) (by decide)) (fun q => absurd (hw.symm.trans q) (by decide)) (fun q => absurd (hw.symm.trans q) (by decide)) (fun q => absurd (hw.symm.trans q) (by decide)) (fun q => absurd (hw.symm.trans q) (by decide)) (fun q => absurd (hw.symm.trans q) (by decide)) (fun q => absurd (hw.symm.trans q) (by decide)) (fun q => absurd (hw.symm.trans q) (by decide)) (fun q => absurd (hw.symm.trans q) (by decide)) (fun q => absurd (hw.symm.trans q) (by decide)) (fun q => absurd (hw.symm.trans q) (by decide)) (fun q => absurd (hw.symm.trans q) (by decide)) (fun q => absurd (hw.symm.trans q) (by decide)) (fun q => absurd (hw.symm.trans q) (by decide)) (fun q => absurd (hw.symm.trans q) (by decide)) (fun q => absurd (hw.symm.trans q) (by decide)) (fun q => absurd (hw.symm.trans q) (by decide)) (fun q => absurd (hw.symm.trans q) (by decide)) (fun q => absurd (hw.symm.trans q) (by decide)) (fun q => absurd (show 0 ≤ p_and (I 0 i.toNat) 63 ∧ p_and (I 0 i.toNat) 63 ≤ 36 by rw [hw]; decide) q)
theorem sl_1 {r : PO × PM} (hi : 0 ≤ i ∧ i < (L : Int)) (hw : p_and (I 0 i.toNat) 63 = 1) (k : Ev 62 mL_law (277, lwL L i, [], (I, S)) r) : Ev 62 mL_law (33, lwL L i, [], (I, S)) r :=
  b5_L_law_33 hi (fun q => absurd (hw.symm.trans q) (by decide)) (fun _ => k) (fun q => absurd (hw.symm.trans q) (by decide)) (fun q => absurd (hw.symm.trans q) (by decide)) (fun q => absurd (hw.symm.trans q) (by decide)) (fun q => absurd (hw.symm.trans q) (by decide)) (fun q => absurd (hw.symm.trans q) (by decide)) (fun q => absurd (hw.symm.trans q) (by decide)) (fun q => absurd (hw.symm.trans q) (by decide)) (fun q => absurd (hw.symm.trans q) (by decide)) (fun q => absurd (hw.symm.trans q) (by decide)) (fun q => absurd (hw.symm.trans q) (by decide)) (fun q => absurd (hw.symm.trans q) (by decide)) (fun q => absurd (hw.symm.trans q) (by decide)) (fun q => absurd (hw.symm.trans q) (by decide)) (fun q => absurd (hw.symm.trans q) (by decide)) (fun q => absurd (hw.symm.trans q) (by decide)) (fun q => absurd (hw.symm.trans q) (by decide)) (fun q => absurd (hw.symm.trans q) (by decide)) (fun q => absurd (hw.symm.trans q) (by decide)) (fun q => absurd (hw.symm.trans q) (by decide)) (fun q => absurd (hw.symm.trans q) (by decide)) (fun q => absurd (hw.symm.trans q) (by decide)) (fun q => absurd (hw.symm.trans q) (by decide)) (fun q => absurd (hw.symm.trans q) (by decide)) (fun q => absurd (hw.symm.trans q) (by decide)) (fun q => absurd (hw.symm.trans q) (by decide)) (fun q => absurd (hw.symm.trans q) (by decide)) (fun q => absurd (hw.symm.trans q) (by decide)) (fun q => absurd (hw.symm.trans q) (by decide)) (fun q => absurd (hw.symm.trans q) (by decide)) (fun q => absurd (hw.symm.trans q) (by decide)) (fun q => absurd (hw.symm.trans q) (by decide)) (fun q => absurd (hw.symm.trans q) (by decide)) (fun q => absurd (hw.symm.trans q) (by decide)) (fun q => absurd (hw.symm.trans q) (by decide)) (fun q => absurd (hw.symm.trans q) (by decide)) (fun q => absurd (show 0 ≤ p_and (I 0 i.toNat) 63 ∧ p_and (I 0 i.toNat) 63 ≤ 36 by rw [hw]; decide) q)
theorem sl_2 {r : PO × PM} (hi : 0 ≤ i ∧ i < (L : Int)) (hw : p_and (I 0 i.toNat) 63 = 2) (k : Ev 62 mL_law (333, lwL L i, [], (I, S)) r) : Ev 62 mL_law (33, lwL L i, [], (I, S)) r :=
  b5_L_law_33 hi (fun q => absurd (hw.symm.trans q) (by decide)) (fun q => absurd (hw.symm.trans q) (by decide)) (fun _ => k) (fun q => absurd (hw.symm.trans q) (by decide)) (fun q => absurd (hw.symm.trans q) (by decide)) (fun q => absurd (hw.symm.trans q) (by decide)) (fun q => absurd (hw.symm.trans q) (by decide)) (fun q => absurd (hw.symm.trans q) (by decide)) (fun q => absurd (hw.symm.trans q) (by decide)) (fun q => absurd (hw.symm.trans q) (by decide)) (fun q => absurd (hw.symm.trans q) (by decide)) (fun q => absurd (hw.symm.trans q) (by decide)) (fun q => absurd (hw.symm.trans q) (by decide)) (fun q => absurd (hw.symm.trans q) (by decide)) (fun q => absurd (hw.symm.trans q) (by decide)) (fun q => absurd (hw.symm.trans q) (by decide)) (fun q => absurd (hw.symm.trans q) (by decide)) (fun q => absurd (hw.symm.trans q) (by decide)) (fun q => absurd (hw.symm.trans q) (by decide)) (fun q => absurd (hw.symm.trans q) (by decide)) (fun q => absurd (hw.symm.trans q) (by decide)) (fun q => absurd (hw.symm.trans q) (by decide)) (fun q => absurd (hw.symm.trans q) (by decide)) (fun q => absurd (hw.symm.trans q) (by decide)) (fun q => absurd (hw.symm.trans q) (by decide)) (fun q => absurd (hw.symm.trans q) (by decide)) (fun q => absurd (hw.symm.trans q) (by decide)) (fun q => absurd (hw.symm.trans q) (by decide)) (fun q => absurd (hw.symm.trans q) (by decide)) (fun q => absurd (hw.symm.trans q) (by decide)) (fun q => absurd (hw.symm.trans q) (by decide)) (fun q => absurd (hw.symm.trans q) (by decide)) (fun q => absurd (hw.symm.trans q) (by decide)) (fun q => absurd (hw.symm.trans q) (by decide)) (fun q => absurd (hw.symm.trans q) (by decide)) (fun q => absurd (hw.symm.trans q) (by decide)) (fun q => absurd (hw.symm.trans q) (by decide)) (fun q => absurd (show 0 ≤ p_and (I 0 i.toNat) 63 ∧ p_and (I 0 i.toNat) 63 ≤ 36 by rw [hw]; decide) q)
theorem sl_3 {r : PO × PM} (hi : 0 ≤ i ∧ i < (L : Int)) (hw : p_and (I 0 i.toNat) 63 = 3) (k : Ev 62 mL_law (346, lwL L i, [], (I, S)) r) : Ev 62 mL_law (33, lwL L i, [], (I, S)) r :=
  b5_L_law_33 hi (fun q => absurd (hw.symm.trans q) (by decide)) (fun q => absurd (hw.symm.trans q) (by decide)) (fun q => absurd (hw.symm.trans q) (by decide)) (fun _ => k) (fun q => absurd (hw.symm.trans q) (by decide)) (fun q => absurd (hw.symm.trans q) (by decide)) (fun q => absurd (hw.symm.trans q) (by decide)) (fun q => absurd (hw.symm.trans q) (by decide)) (fun q => absurd (hw.symm.trans q) (by decide)) (fun q => absurd (hw.symm.trans q) (by decide)) (fun q => absurd (hw.symm.trans q) (by decide)) (fun q => absurd (hw.symm.trans q) (by decide)) (fun q => absurd (hw.symm.trans q) (by decide)) (fun q => absurd (hw.symm.trans q) (by decide)) (fun q => absurd (hw.symm.trans q) (by decide)) (fun q => absurd (hw.symm.trans q) (by decide)) (fun q => absurd (hw.symm.trans q) (by decide)) (fun q => absurd (hw.symm.trans q) (by decide)) (fun q => absurd (hw.symm.trans q) (by decide)) (fun q => absurd (hw.symm.trans q) (by decide)) (fun q => absurd (hw.symm.trans q) (by decide)) (fun q => absurd (hw.symm.trans q) (by decide)) (fun q => absurd (hw.symm.trans q) (by decide)) (fun q => absurd (hw.symm.trans q) (by decide)) (fun q => absurd (hw.symm.trans q) (by decide)) (fun q => absurd (hw.symm.trans q) (by decide)) (fun q => absurd (hw.symm.trans q) (by decide)) (fun q => absurd (hw.symm.trans q) (by decide)) (fun q => absurd (hw.symm.trans q) (by decide)) (fun q => absurd (hw.symm.trans q) (by decide)) (fun q => absurd (hw.symm.trans q) (by decide)) (fun q => absurd (hw.symm.trans q) (by decide)) (fun q => absurd (hw.symm.trans q) (by decide)) (fun q => absurd (hw.symm.trans q) (by decide)) (fun q => absurd (hw.symm.trans q) (by decide)) (fun q => absurd (hw.symm.trans q) (by decide)) (fun q => absurd (hw.symm.trans q) (by decide)) (fun q => absurd (show 0 ≤ p_and (I 0 i.toNat) 63 ∧ p_and (I 0 i.toNat) 63 ≤ 36 by rw [hw]; decide) q)
theorem sl_4 {r : PO × PM} (hi : 0 ≤ i ∧ i < (L : Int)) (hw : p_and (I 0 i.toNat) 63 = 4) (k : Ev 62 mL_law (402, lwL L i, [], (I, S)) r) : Ev 62 mL_law (33, lwL L i, [], (I, S)) r :=
  b5_L_law_33 hi (fun q => absurd (hw.symm.trans q) (by decide)) (fun q => absurd (hw.symm.trans q) (by decide)) (fun q => absurd (hw.symm.trans q) (by decide)) (fun q => absurd (hw.symm.trans q) (by decide)) (fun _ => k) (fun q => absurd (hw.symm.trans q) (by decide)) (fun q => absurd (hw.symm.trans q) (by decide)) (fun q => absurd (hw.symm.trans q) (by decide)) (fun q => absurd (hw.symm.trans q) (by decide)) (fun q => absurd (hw.symm.trans q) (by decide)) (fun q => absurd (hw.symm.trans q) (by decide)) (fun q => absurd (hw.symm.trans q) (by decide)) (fun q => absurd (hw.symm.trans q) (by decide)) (fun q => absurd (hw.symm.trans q) (by decide)) (fun q => absurd (hw.symm.trans q) (by decide)) (fun q => absurd (hw.symm.trans q) (by decide)) (fun q => absurd (hw.symm.trans q) (by decide)) (fun q => absurd (hw.symm.trans q) (by decide)) (fun q => absurd (hw.symm.trans q) (by decide)) (fun q => absurd (hw.symm.trans q) (by decide)) (fun q => absurd (hw.symm.trans q) (by decide)) (fun q => absurd (hw.symm.trans q) (by decide)) (fun q => absurd (hw.symm.trans q) (by decide)) (fun q => absurd (hw.symm.trans q) (by decide)) (fun q => absurd (hw.symm.trans q) (by decide)) (fun q => absurd (hw.symm.trans q) (by decide)) (fun q => absurd (hw.symm.trans q) (by decide)) (fun q => absurd (hw.symm.trans q) (by decide)) (fun q => absurd (hw.symm.trans q) (by decide)) (fun q => absurd (hw.symm.trans q) (by decide)) (fun q => absurd (hw.symm.trans q) (by decide)) (fun q => absurd (hw.symm.trans q) (by decide)) (fun q => absurd (hw.symm.trans q) (by decide)) (fun q => absurd (hw.symm.trans q) (by decide)) (fun q => absurd (hw.symm.trans q) (by decide)) (fun q => absurd (hw.symm.trans q) (by decide)) (fun q => absurd (hw.symm.trans q) (by decide)) (fun q => absurd (show 0 ≤ p_and (I 0 i.toNat) 63 ∧ p_and (I 0 i.toNat) 63 ≤ 36 by rw [hw]; decide) q)
theorem sl_5 {r : PO × PM} (hi : 0 ≤ i ∧ i < (L : Int)) (hw : p_and (I 0 i.toNat) 63 = 5) (k : Ev 62 mL_law (470, lwL L i, [], (I, S)) r) : Ev 62 mL_law (33, lwL L i, [], (I, S)) r :=
  b5_L_law_33 hi (fun q => absurd (hw.symm.trans q) (by decide)) (fun q => absurd (hw.symm.trans q) (by decide)) (fun q => absurd (hw.symm.trans q) (by decide)) (fun q => absurd (hw.symm.trans q) (by decide)) (fun q => absurd (hw.symm.trans q) (by decide)) (fun _ => k) (fun q => absurd (hw.symm.trans q) (by decide)) (fun q => absurd (hw.symm.trans q) (by decide)) (fun q => absurd (hw.symm.trans q) (by decide)) (fun q => absurd (hw.symm.trans q) (by decide)) (fun q => absurd (hw.symm.trans q) (by decide)) (fun q => absurd (hw.symm.trans q) (by decide)) (fun q => absurd (hw.symm.trans q) (by decide)) (fun q => absurd (hw.symm.trans q) (by decide)) (fun q => absurd (hw.symm.trans q) (by decide)) (fun q => absurd (hw.symm.trans q) (by decide)) (fun q => absurd (hw.symm.trans q) (by decide)) (fun q => absurd (hw.symm.trans q) (by decide)) (fun q => absurd (hw.symm.trans q) (by decide)) (fun q => absurd (hw.symm.trans q) (by decide)) (fun q => absurd (hw.symm.trans q) (by decide)) (fun q => absurd (hw.symm.trans q) (by decide)) (fun q => absurd (hw.symm.trans q) (by decide)) (fun q => absurd (hw.symm.trans q) (by decide)) (fun q => absurd (hw.symm.trans q) (by decide)) (fun q => absurd (hw.symm.trans q) (by decide)) (fun q => absurd (hw.symm.trans q) (by decide)) (fun q => absurd (hw.symm.trans q) (by decide)) (fun q => absurd (hw.symm.trans q) (by decide)) (fun q => absurd (hw.symm.trans q) (by decide)) (fun q => absurd (hw.symm.trans q) (by decide)) (fun q => absurd (hw.symm.trans q) (by decide)) (fun q => absurd (hw.symm.trans q) (by decide)) (fun q => absurd (hw.symm.trans q) (by decide)) (fun q => absurd (hw.symm.trans q) (by decide)) (fun q => absurd (hw.symm.trans q) (by decide)) (fun q => absurd (hw.symm.trans q) (by decide)) (fun q => absurd (show 0 ≤ p_and (I 0 i.toNat) 63 ∧ p_and (I 0 i.toNat) 63 ≤ 36 by rw [hw]; decide) q)
theorem sl_6 {r : PO × PM} (hi : 0 ≤ i ∧ i < (L : Int)) (hw : p_and (I 0 i.toNat) 63 = 6) (k : Ev 62 mL_law (538, lwL L i, [], (I, S)) r) : Ev 62 mL_law (33, lwL L i, [], (I, S)) r :=
  b5_L_law_33 hi (fun q => absurd (hw.symm.trans q) (by decide)) (fun q => absurd (hw.symm.trans q) (by decide)) (fun q => absurd (hw.symm.trans q) (by decide)) (fun q => absurd (hw.symm.trans q) (by decide)) (fun q => absurd (hw.symm.trans q) (by decide)) (fun q => absurd (hw.symm.trans q) (by decide)) (fun _ => k) (fun q => absurd (hw.symm.trans q) (by decide)) (fun q => absurd (hw.symm.trans q) (by decide)) (fun q => absurd (hw.symm.trans q) (by decide)) (fun q => absurd (hw.symm.trans q) (by decide)) (fun q => absurd (hw.symm.trans q) (by decide)) (fun q => absurd (hw.symm.trans q) (by decide)) (fun q => absurd (hw.symm.trans q) (by decide)) (fun q => absurd (hw.symm.trans q) (by decide)) (fun q => absurd (hw.symm.trans q) (by decide)) (fun q => absurd (hw.symm.trans q) (by decide)) (fun q => absurd (hw.symm.trans q) (by decide)) (fun q => absurd (hw.symm.trans q) (by decide)) (fun q => absurd (hw.symm.trans q) (by decide)) (fun q => absurd (hw.symm.trans q) (by decide)) (fun q => absurd (hw.symm.trans q) (by decide)) (fun q => absurd (hw.symm.trans q) (by decide)) (fun q => absurd (hw.symm.trans q) (by decide)) (fun q => absurd (hw.symm.trans q) (by decide)) (fun q => absurd (hw.symm.trans q) (by decide)) (fun q => absurd (hw.symm.trans q) (by decide)) (fun q => absurd (hw.symm.trans q) (by decide)) (fun q => absurd (hw.symm.trans q) (by decide)) (fun q => absurd (hw.symm.trans q) (by decide)) (fun q => absurd (hw.symm.trans q) (by decide)) (fun q => absurd (hw.symm.trans q) (by decide)) (fun q => absurd (hw.symm.trans q) (by decide)) (fun q => absurd (hw.symm.trans q) (by decide)) (fun q => absurd (hw.symm.trans q) (by decide)) (fun q => absurd (hw.symm.trans q) (by decide)) (fun q => absurd (hw.symm.trans q) (by decide)) (fun q => absurd (show 0 ≤ p_and (I 0 i.toNat) 63 ∧ p_and (I 0 i.toNat) 63 ≤ 36 by rw [hw]; decide) q)
theorem sl_7 {r : PO × PM} (hi : 0 ≤ i ∧ i < (L : Int)) (hw : p_and (I 0 i.toNat) 63 = 7) (k : Ev 62 mL_law (618, lwL L i, [], (I, S)) r) : Ev 62 mL_law (33, lwL L i, [], (I, S)) r :=
  b5_L_law_33 hi (fun q => absurd (hw.symm.trans q) (by decide)) (fun q => absurd (hw.symm.trans q) (by decide)) (fun q => absurd (hw.symm.trans q) (by decide)) (fun q => absurd (hw.symm.trans q) (by decide)) (fun q => absurd (hw.symm.trans q) (by decide)) (fun q => absurd (hw.symm.trans q) (by decide)) (fun q => absurd (hw.symm.trans q) (by decide)) (fun _ => k) (fun q => absurd (hw.symm.trans q) (by decide)) (fun q => absurd (hw.symm.trans q) (by decide)) (fun q => absurd (hw.symm.trans q) (by decide)) (fun q => absurd (hw.symm.trans q) (by decide)) (fun q => absurd (hw.symm.trans q) (by decide)) (fun q => absurd (hw.symm.trans q) (by decide)) (fun q => absurd (hw.symm.trans q) (by decide)) (fun q => absurd (hw.symm.trans q) (by decide)) (fun q => absurd (hw.symm.trans q) (by decide)) (fun q => absurd (hw.symm.trans q) (by decide)) (fun q => absurd (hw.symm.trans q) (by decide)) (fun q => absurd (hw.symm.trans q) (by decide)) (fun q => absurd (hw.symm.trans q) (by decide)) (fun q => absurd (hw.symm.trans q) (by decide)) (fun q => absurd (hw.symm.trans q) (by decide)) (fun q => absurd (hw.symm.trans q) (by decide)) (fun q => absurd (hw.symm.trans q) (by decide)) (fun q => absurd (hw.symm.trans q) (by decide)) (fun q => absurd (hw.symm.trans q) (by decide)) (fun q => absurd (hw.symm.trans q) (by decide)) (fun q => absurd (hw.symm.trans q) (by decide)) (fun q => absurd (hw.symm.trans q) (by decide)) (fun q => absurd (hw.symm.trans q) (by decide)) (fun q => absurd (hw.symm.trans q) (by decide)) (fun q => absurd (hw.symm.trans q) (by decide)) (fun q => absurd (hw.symm.trans q) (by decide)) (fun q => absurd (hw.symm.trans q) (by decide)) (fun q => absurd (hw.symm.trans q) (by decide)) (fun q => absurd (hw.symm.trans q) (by decide)) (fun q => absurd (show 0 ≤ p_and (I 0 i.toNat) 63 ∧ p_and (I 0 i.toNat) 63 ≤ 36 by rw [hw]; decide) q)
theorem sl_8 {r : PO × PM} (hi : 0 ≤ i ∧ i < (L : Int)) (hw : p_and (I 0 i.toNat) 63 = 8) (k : Ev 62 mL_law (686, lwL L i, [], (I, S)) r) : Ev 62 mL_law (33, lwL L i, [], (I, S)) r :=
  b5_L_law_33 hi (fun q => absurd (hw.symm.trans q) (by decide)) (fun q => absurd (hw.symm.trans q) (by decide)) (fun q => absurd (hw.symm.trans q) (by decide)) (fun q => absurd (hw.symm.trans q) (by decide)) (fun q => absurd (hw.symm.trans q) (by decide)) (fun q => absurd (hw.symm.trans q) (by decide)) (fun q => absurd (hw.symm.trans q) (by decide)) (fun q => absurd (hw.symm.trans q) (by decide)) (fun _ => k) (fun q => absurd (hw.symm.trans q) (by decide)) (fun q => absurd (hw.symm.trans q) (by decide)) (fun q => absurd (hw.symm.trans q) (by decide)) (fun q => absurd (hw.symm.trans q) (by decide)) (fun q => absurd (hw.symm.trans q) (by decide)) (fun q => absurd (hw.symm.trans q) (by decide)) (fun q => absurd (hw.symm.trans q) (by decide)) (fun q => absurd (hw.symm.trans q) (by decide)) (fun q => absurd (hw.symm.trans q) (by decide)) (fun q => absurd (hw.symm.trans q) (by decide)) (fun q => absurd (hw.symm.trans q) (by decide)) (fun q => absurd (hw.symm.trans q) (by decide)) (fun q => absurd (hw.symm.trans q) (by decide)) (fun q => absurd (hw.symm.trans q) (by decide)) (fun q => absurd (hw.symm.trans q) (by decide)) (fun q => absurd (hw.symm.trans q) (by decide)) (fun q => absurd (hw.symm.trans q) (by decide)) (fun q => absurd (hw.symm.trans q) (by decide)) (fun q => absurd (hw.symm.trans q) (by decide)) (fun q => absurd (hw.symm.trans q) (by decide)) (fun q => absurd (hw.symm.trans q) (by decide)) (fun q => absurd (hw.symm.trans q) (by decide)) (fun q => absurd (hw.symm.trans q) (by decide)) (fun q => absurd (hw.symm.trans q) (by decide)) (fun q => absurd (hw.symm.trans q) (by decide)) (fun q => absurd (hw.symm.trans q) (by decide)) (fun q => absurd (hw.symm.trans q) (by decide)) (fun q => absurd (hw.symm.trans q) (by decide)) (fun q => absurd (show 0 ≤ p_and (I 0 i.toNat) 63 ∧ p_and (I 0 i.toNat) 63 ≤ 36 by rw [hw]; decide) q)
theorem sl_9 {r : PO × PM} (hi : 0 ≤ i ∧ i < (L : Int)) (hw : p_and (I 0 i.toNat) 63 = 9) (k : Ev 62 mL_law (754, lwL L i, [], (I, S)) r) : Ev 62 mL_law (33, lwL L i, [], (I, S)) r :=
  b5_L_law_33 hi (fun q => absurd (hw.symm.trans q) (by decide)) (fun q => absurd (hw.symm.trans q) (by decide)) (fun q => absurd (hw.symm.trans q) (by decide)) (fun q => absurd (hw.symm.trans q) (by decide)) (fun q => absurd (hw.symm.trans q) (by decide)) (fun q => absurd (hw.symm.trans q) (by decide)) (fun q => absurd (hw.symm.trans q) (by decide)) (fun q => absurd (hw.symm.trans q) (by decide)) (fun q => absurd (hw.symm.trans q) (by decide)) (fun _ => k) (fun q => absurd (hw.symm.trans q) (by decide)) (fun q => absurd (hw.symm.trans q) (by decide)) (fun q => absurd (hw.symm.trans q) (by decide)) (fun q => absurd (hw.symm.trans q) (by decide)) (fun q => absurd (hw.symm.trans q) (by decide)) (fun q => absurd (hw.symm.trans q) (by decide)) (fun q => absurd (hw.symm.trans q) (by decide)) (fun q => absurd (hw.symm.trans q) (by decide)) (fun q => absurd (hw.symm.trans q) (by decide)) (fun q => absurd (hw.symm.trans q) (by decide)) (fun q => absurd (hw.symm.trans q) (by decide)) (fun q => absurd (hw.symm.trans q) (by decide)) (fun q => absurd (hw.symm.trans q) (by decide)) (fun q => absurd (hw.symm.trans q) (by decide)) (fun q => absurd (hw.symm.trans q) (by decide)) (fun q => absurd (hw.symm.trans q) (by decide)) (fun q => absurd (hw.symm.trans q) (by decide)) (fun q => absurd (hw.symm.trans q) (by decide)) (fun q => absurd (hw.symm.trans q) (by decide)) (fun q => absurd (hw.symm.trans q) (by decide)) (fun q => absurd (hw.symm.trans q) (by decide)) (fun q => absurd (hw.symm.trans q) (by decide)) (fun q => absurd (hw.symm.trans q) (by decide)) (fun q => absurd (hw.symm.trans q) (by decide)) (fun q => absurd (hw.symm.trans q) (by decide)) (fun q => absurd (hw.symm.trans q) (by decide)) (fun q => absurd (hw.symm.trans q) (by decide)) (fun q => absurd (show 0 ≤ p_and (I 0 i.toNat) 63 ∧ p_and (I 0 i.toNat) 63 ≤ 36 by rw [hw]; decide) q)
theorem sl_10 {r : PO × PM} (hi : 0 ≤ i ∧ i < (L : Int)) (hw : p_and (I 0 i.toNat) 63 = 10) (k : Ev 62 mL_law (834, lwL L i, [], (I, S)) r) : Ev 62 mL_law (33, lwL L i, [], (I, S)) r :=
  b5_L_law_33 hi (fun q => absurd (hw.symm.trans q) (by decide)) (fun q => absurd (hw.symm.trans q) (by decide)) (fun q => absurd (hw.symm.trans q) (by decide)) (fun q => absurd (hw.symm.trans q) (by decide)) (fun q => absurd (hw.symm.trans q) (by decide)) (fun q => absurd (hw.symm.trans q) (by decide)) (fun q => absurd (hw.symm.trans q) (by decide)) (fun q => absurd (hw.symm.trans q) (by decide)) (fun q => absurd (hw.symm.trans q) (by decide)) (fun q => absurd (hw.symm.trans q) (by decide)) (fun _ => k) (fun q => absurd (hw.symm.trans q) (by decide)) (fun q => absurd (hw.symm.trans q) (by decide)) (fun q => absurd (hw.symm.trans q) (by decide)) (fun q => absurd (hw.symm.trans q) (by decide)) (fun q => absurd (hw.symm.trans q) (by decide)) (fun q => absurd (hw.symm.trans q) (by decide)) (fun q => absurd (hw.symm.trans q) (by decide)) (fun q => absurd (hw.symm.trans q) (by decide)) (fun q => absurd (hw.symm.trans q) (by decide)) (fun q => absurd (hw.symm.trans q) (by decide)) (fun q => absurd (hw.symm.trans q) (by decide)) (fun q => absurd (hw.symm.trans q) (by decide)) (fun q => absurd (hw.symm.trans q) (by decide)) (fun q => absurd (hw.symm.trans q) (by decide)) (fun q => absurd (hw.symm.trans q) (by decide)) (fun q => absurd (hw.symm.trans q) (by decide)) (fun q => absurd (hw.symm.trans q) (by decide)) (fun q => absurd (hw.symm.trans q) (by decide)) (fun q => absurd (hw.symm.trans q) (by decide)) (fun q => absurd (hw.symm.trans q) (by decide)) (fun q => absurd (hw.symm.trans q) (by decide)) (fun q => absurd (hw.symm.trans q) (by decide)) (fun q => absurd (hw.symm.trans q) (by decide)) (fun q => absurd (hw.symm.trans q) (by decide)) (fun q => absurd (hw.symm.trans q) (by decide)) (fun q => absurd (hw.symm.trans q) (by decide)) (fun q => absurd (show 0 ≤ p_and (I 0 i.toNat) 63 ∧ p_and (I 0 i.toNat) 63 ≤ 36 by rw [hw]; decide) q)
theorem sl_11 {r : PO × PM} (hi : 0 ≤ i ∧ i < (L : Int)) (hw : p_and (I 0 i.toNat) 63 = 11) (k : Ev 62 mL_law (926, lwL L i, [], (I, S)) r) : Ev 62 mL_law (33, lwL L i, [], (I, S)) r :=
  b5_L_law_33 hi (fun q => absurd (hw.symm.trans q) (by decide)) (fun q => absurd (hw.symm.trans q) (by decide)) (fun q => absurd (hw.symm.trans q) (by decide)) (fun q => absurd (hw.symm.trans q) (by decide)) (fun q => absurd (hw.symm.trans q) (by decide)) (fun q => absurd (hw.symm.trans q) (by decide)) (fun q => absurd (hw.symm.trans q) (by decide)) (fun q => absurd (hw.symm.trans q) (by decide)) (fun q => absurd (hw.symm.trans q) (by decide)) (fun q => absurd (hw.symm.trans q) (by decide)) (fun q => absurd (hw.symm.trans q) (by decide)) (fun _ => k) (fun q => absurd (hw.symm.trans q) (by decide)) (fun q => absurd (hw.symm.trans q) (by decide)) (fun q => absurd (hw.symm.trans q) (by decide)) (fun q => absurd (hw.symm.trans q) (by decide)) (fun q => absurd (hw.symm.trans q) (by decide)) (fun q => absurd (hw.symm.trans q) (by decide)) (fun q => absurd (hw.symm.trans q) (by decide)) (fun q => absurd (hw.symm.trans q) (by decide)) (fun q => absurd (hw.symm.trans q) (by decide)) (fun q => absurd (hw.symm.trans q) (by decide)) (fun q => absurd (hw.symm.trans q) (by decide)) (fun q => absurd (hw.symm.trans q) (by decide)) (fun q => absurd (hw.symm.trans q) (by decide)) (fun q => absurd (hw.symm.trans q) (by decide)) (fun q => absurd (hw.symm.trans q) (by decide)) (fun q => absurd (hw.symm.trans q) (by decide)) (fun q => absurd (hw.symm.trans q) (by decide)) (fun q => absurd (hw.symm.trans q) (by decide)) (fun q => absurd (hw.symm.trans q) (by decide)) (fun q => absurd (hw.symm.trans q) (by decide)) (fun q => absurd (hw.symm.trans q) (by decide)) (fun q => absurd (hw.symm.trans q) (by decide)) (fun q => absurd (hw.symm.trans q) (by decide)) (fun q => absurd (hw.symm.trans q) (by decide)) (fun q => absurd (hw.symm.trans q) (by decide)) (fun q => absurd (show 0 ≤ p_and (I 0 i.toNat) 63 ∧ p_and (I 0 i.toNat) 63 ≤ 36 by rw [hw]; decide) q)
theorem sl_12 {r : PO × PM} (hi : 0 ≤ i ∧ i < (L : Int)) (hw : p_and (I 0 i.toNat) 63 = 12) (k : Ev 62 mL_law (1018, lwL L i, [], (I, S)) r) : Ev 62 mL_law (33, lwL L i, [], (I, S)) r :=
  b5_L_law_33 hi (fun q => absurd (hw.symm.trans q) (by decide)) (fun q => absurd (hw.symm.trans q) (by decide)) (fun q => absurd (hw.symm.trans q) (by decide)) (fun q => absurd (hw.symm.trans q) (by decide)) (fun q => absurd (hw.symm.trans q) (by decide)) (fun q => absurd (hw.symm.trans q) (by decide)) (fun q => absurd (hw.symm.trans q) (by decide)) (fun q => absurd (hw.symm.trans q) (by decide)) (fun q => absurd (hw.symm.trans q) (by decide)) (fun q => absurd (hw.symm.trans q) (by decide)) (fun q => absurd (hw.symm.trans q) (by decide)) (fun q => absurd (hw.symm.trans q) (by decide)) (fun _ => k) (fun q => absurd (hw.symm.trans q) (by decide)) (fun q => absurd (hw.symm.trans q) (by decide)) (fun q => absurd (hw.symm.trans q) (by decide)) (fun q => absurd (hw.symm.trans q) (by decide)) (fun q => absurd (hw.symm.trans q) (by decide)) (fun q => absurd (hw.symm.trans q) (by decide)) (fun q => absurd (hw.symm.trans q) (by decide)) (fun q => absurd (hw.symm.trans q) (by decide)) (fun q => absurd (hw.symm.trans q) (by decide)) (fun q => absurd (hw.symm.trans q) (by decide)) (fun q => absurd (hw.symm.trans q) (by decide)) (fun q => absurd (hw.symm.trans q) (by decide)) (fun q => absurd (hw.symm.trans q) (by decide)) (fun q => absurd (hw.symm.trans q) (by decide)) (fun q => absurd (hw.symm.trans q) (by decide)) (fun q => absurd (hw.symm.trans q) (by decide)) (fun q => absurd (hw.symm.trans q) (by decide)) (fun q => absurd (hw.symm.trans q) (by decide)) (fun q => absurd (hw.symm.trans q) (by decide)) (fun q => absurd (hw.symm.trans q) (by decide)) (fun q => absurd (hw.symm.trans q) (by decide)) (fun q => absurd (hw.symm.trans q) (by decide)) (fun q => absurd (hw.symm.trans q) (by decide)) (fun q => absurd (hw.symm.trans q) (by decide)) (fun q => absurd (show 0 ≤ p_and (I 0 i.toNat) 63 ∧ p_and (I 0 i.toNat) 63 ≤ 36 by rw [hw]; decide) q)
theorem sl_13 {r : PO × PM} (hi : 0 ≤ i ∧ i < (L : Int)) (hw : p_and (I 0 i.toNat) 63 = 13) (k : Ev 62 mL_law (1098, lwL L i, [], (I, S)) r) : Ev 62 mL_law (33, lwL L i, [], (I, S)) r :=
  b5_L_law_33 hi (fun q => absurd (hw.symm.trans q) (by decide)) (fun q => absurd (hw.symm.trans q) (by decide)) (fun q => absurd (hw.symm.trans q) (by decide)) (fun q => absurd (hw.symm.trans q) (by decide)) (fun q => absurd (hw.symm.trans q) (by decide)) (fun q => absurd (hw.symm.trans q) (by decide)) (fun q => absurd (hw.symm.trans q) (by decide)) (fun q => absurd (hw.symm.trans q) (by decide)) (fun q => absurd (hw.symm.trans q) (by decide)) (fun q => absurd (hw.symm.trans q) (by decide)) (fun q => absurd (hw.symm.trans q) (by decide)) (fun q => absurd (hw.symm.trans q) (by decide)) (fun q => absurd (hw.symm.trans q) (by decide)) (fun _ => k) (fun q => absurd (hw.symm.trans q) (by decide)) (fun q => absurd (hw.symm.trans q) (by decide)) (fun q => absurd (hw.symm.trans q) (by decide)) (fun q => absurd (hw.symm.trans q) (by decide)) (fun q => absurd (hw.symm.trans q) (by decide)) (fun q => absurd (hw.symm.trans q) (by decide)) (fun q => absurd (hw.symm.trans q) (by decide)) (fun q => absurd (hw.symm.trans q) (by decide)) (fun q => absurd (hw.symm.trans q) (by decide)) (fun q => absurd (hw.symm.trans q) (by decide)) (fun q => absurd (hw.symm.trans q) (by decide)) (fun q => absurd (hw.symm.trans q) (by decide)) (fun q => absurd (hw.symm.trans q) (by decide)) (fun q => absurd (hw.symm.trans q) (by decide)) (fun q => absurd (hw.symm.trans q) (by decide)) (fun q => absurd (hw.symm.trans q) (by decide)) (fun q => absurd (hw.symm.trans q) (by decide)) (fun q => absurd (hw.symm.trans q) (by decide)) (fun q => absurd (hw.symm.trans q) (by decide)) (fun q => absurd (hw.symm.trans q) (by decide)) (fun q => absurd (hw.symm.trans q) (by decide)) (fun q => absurd (hw.symm.trans q) (by decide)) (fun q => absurd (hw.symm.trans q) (by decide)) (fun q => absurd (show 0 ≤ p_and (I 0 i.toNat) 63 ∧ p_and (I 0 i.toNat) 63 ≤ 36 by rw [hw]; decide) q)
theorem sl_14 {r : PO × PM} (hi : 0 ≤ i ∧ i < (L : Int)) (hw : p_and (I 0 i.toNat) 63 = 14) (k : Ev 62 mL_law (1190, lwL L i, [], (I, S)) r) : Ev 62 mL_law (33, lwL L i, [], (I, S)) r :=
  b5_L_law_33 hi (fun q => absurd (hw.symm.trans q) (by decide)) (fun q => absurd (hw.symm.trans q) (by decide)) (fun q => absurd (hw.symm.trans q) (by decide)) (fun q => absurd (hw.symm.trans q) (by decide)) (fun q => absurd (hw.symm.trans q) (by decide)) (fun q => absurd (hw.symm.trans q) (by decide)) (fun q => absurd (hw.symm.trans q) (by decide)) (fun q => absurd (hw.symm.trans q) (by decide)) (fun q => absurd (hw.symm.trans q) (by decide)) (fun q => absurd (hw.symm.trans q) (by decide)) (fun q => absurd (hw.symm.trans q) (by decide)) (fun q => absurd (hw.symm.trans q) (by decide)) (fun q => absurd (hw.symm.trans q) (by decide)) (fun q => absurd (hw.symm.trans q) (by decide)) (fun _ => k) (fun q => absurd (hw.symm.trans q) (by decide)) (fun q => absurd (hw.symm.trans q) (by decide)) (fun q => absurd (hw.symm.trans q) (by decide)) (fun q => absurd (hw.symm.trans q) (by decide)) (fun q => absurd (hw.symm.trans q) (by decide)) (fun q => absurd (hw.symm.trans q) (by decide)) (fun q => absurd (hw.symm.trans q) (by decide)) (fun q => absurd (hw.symm.trans q) (by decide)) (fun q => absurd (hw.symm.trans q) (by decide)) (fun q => absurd (hw.symm.trans q) (by decide)) (fun q => absurd (hw.symm.trans q) (by decide)) (fun q => absurd (hw.symm.trans q) (by decide)) (fun q => absurd (hw.symm.trans q) (by decide)) (fun q => absurd (hw.symm.trans q) (by decide)) (fun q => absurd (hw.symm.trans q) (by decide)) (fun q => absurd (hw.symm.trans q) (by decide)) (fun q => absurd (hw.symm.trans q) (by decide)) (fun q => absurd (hw.symm.trans q) (by decide)) (fun q => absurd (hw.symm.trans q) (by decide)) (fun q => absurd (hw.symm.trans q) (by decide)) (fun q => absurd (hw.symm.trans q) (by decide)) (fun q => absurd (hw.symm.trans q) (by decide)) (fun q => absurd (show 0 ≤ p_and (I 0 i.toNat) 63 ∧ p_and (I 0 i.toNat) 63 ≤ 36 by rw [hw]; decide) q)
theorem sl_15 {r : PO × PM} (hi : 0 ≤ i ∧ i < (L : Int)) (hw : p_and (I 0 i.toNat) 63 = 15) (k : Ev 62 mL_law (1270, lwL L i, [], (I, S)) r) : Ev 62 mL_law (33, lwL L i, [], (I, S)) r :=
  b5_L_law_33 hi (fun q => absurd (hw.symm.trans q) (by decide)) (fun q => absurd (hw.symm.trans q) (by decide)) (fun q => absurd (hw.symm.trans q) (by decide)) (fun q => absurd (hw.symm.trans q) (by decide)) (fun q => absurd (hw.symm.trans q) (by decide)) (fun q => absurd (hw.symm.trans q) (by decide)) (fun q => absurd (hw.symm.trans q) (by decide)) (fun q => absurd (hw.symm.trans q) (by decide)) (fun q => absurd (hw.symm.trans q) (by decide)) (fun q => absurd (hw.symm.trans q) (by decide)) (fun q => absurd (hw.symm.trans q) (by decide)) (fun q => absurd (hw.symm.trans q) (by decide)) (fun q => absurd (hw.symm.trans q) (by decide)) (fun q => absurd (hw.symm.trans q) (by decide)) (fun q => absurd (hw.symm.trans q) (by decide)) (fun _ => k) (fun q => absurd (hw.symm.trans q) (by decide)) (fun q => absurd (hw.symm.trans q) (by decide)) (fun q => absurd (hw.symm.trans q) (by decide)) (fun q => absurd (hw.symm.trans q) (by decide)) (fun q => absurd (hw.symm.trans q) (by decide)) (fun q => absurd (hw.symm.trans q) (by decide)) (fun q => absurd (hw.symm.trans q) (by decide)) (fun q => absurd (hw.symm.trans q) (by decide)) (fun q => absurd (hw.symm.trans q) (by decide)) (fun q => absurd (hw.symm.trans q) (by decide)) (fun q => absurd (hw.symm.trans q) (by decide)) (fun q => absurd (hw.symm.trans q) (by decide)) (fun q => absurd (hw.symm.trans q) (by decide)) (fun q => absurd (hw.symm.trans q) (by decide)) (fun q => absurd (hw.symm.trans q) (by decide)) (fun q => absurd (hw.symm.trans q) (by decide)) (fun q => absurd (hw.symm.trans q) (by decide)) (fun q => absurd (hw.symm.trans q) (by decide)) (fun q => absurd (hw.symm.trans q) (by decide)) (fun q => absurd (hw.symm.trans q) (by decide)) (fun q => absurd (hw.symm.trans q) (by decide)) (fun q => absurd (show 0 ≤ p_and (I 0 i.toNat) 63 ∧ p_and (I 0 i.toNat) 63 ≤ 36 by rw [hw]; decide) q)
theorem sl_16 {r : PO × PM} (hi : 0 ≤ i ∧ i < (L : Int)) (hw : p_and (I 0 i.toNat) 63 = 16) (k : Ev 62 mL_law (1338, lwL L i, [], (I, S)) r) : Ev 62 mL_law (33, lwL L i, [], (I, S)) r :=
  b5_L_law_33 hi (fun q => absurd (hw.symm.trans q) (by decide)) (fun q => absurd (hw.symm.trans q) (by decide)) (fun q => absurd (hw.symm.trans q) (by decide)) (fun q => absurd (hw.symm.trans q) (by decide)) (fun q => absurd (hw.symm.trans q) (by decide)) (fun q => absurd (hw.symm.trans q) (by decide)) (fun q => absurd (hw.symm.trans q) (by decide)) (fun q => absurd (hw.symm.trans q) (by decide)) (fun q => absurd (hw.symm.trans q) (by decide)) (fun q => absurd (hw.symm.trans q) (by decide)) (fun q => absurd (hw.symm.trans q) (by decide)) (fun q => absurd (hw.symm.trans q) (by decide)) (fun q => absurd (hw.symm.trans q) (by decide)) (fun q => absurd (hw.symm.trans q) (by decide)) (fun q => absurd (hw.symm.trans q) (by decide)) (fun q => absurd (hw.symm.trans q) (by decide)) (fun _ => k) (fun q => absurd (hw.symm.trans q) (by decide)) (fun q => absurd (hw.symm.trans q) (by decide)) (fun q => absurd (hw.symm.trans q) (by decide)) (fun q => absurd (hw.symm.trans q) (by decide)) (fun q => absurd (hw.symm.trans q) (by decide)) (fun q => absurd (hw.symm.trans q) (by decide)) (fun q => absurd (hw.symm.trans q) (by decide)) (fun q => absurd (hw.symm.trans q) (by decide)) (fun q => absurd (hw.symm.trans q) (by decide)) (fun q => absurd (hw.symm.trans q) (by decide)) (fun q => absurd (hw.symm.trans q) (by decide)) (fun q => absurd (hw.symm.trans q) (by decide)) (fun q => absurd (hw.symm.trans q) (by decide)) (fun q => absurd (hw.symm.trans q) (by decide)) (fun q => absurd (hw.symm.trans q) (by decide)) (fun q => absurd (hw.symm.trans q) (by decide)) (fun q => absurd (hw.symm.trans q) (by decide)) (fun q => absurd (hw.symm.trans q) (by decide)) (fun q => absurd (hw.symm.trans q) (by decide)) (fun q => absurd (hw.symm.trans q) (by decide)) (fun q => absurd (show 0 ≤ p_and (I 0 i.toNat) 63 ∧ p_and (I 0 i.toNat) 63 ≤ 36 by rw [hw]; decide) q)
theorem sl_17 {r : PO × PM} (hi : 0 ≤ i ∧ i < (L : Int)) (hw : p_and (I 0 i.toNat) 63 = 17) (k : Ev 62 mL_law (1406, lwL L i, [], (I, S)) r) : Ev 62 mL_law (33, lwL L i, [], (I, S)) r :=
  b5_L_law_33 hi (fun q => absurd (hw.symm.trans q) (by decide)) (fun q => absurd (hw.symm.trans q) (by decide)) (fun q => absurd (hw.symm.trans q) (by decide)) (fun q => absurd (hw.symm.trans q) (by decide)) (fun q => absurd (hw.symm.trans q) (by decide)) (fun q => absurd (hw.symm.trans q) (by decide)) (fun q => absurd (hw.symm.trans q) (by decide)) (fun q => absurd (hw.symm.trans q) (by decide)) (fun q => absurd (hw.symm.trans q) (by decide)) (fun q => absurd (hw.symm.trans q) (by decide)) (fun q => absurd (hw.symm.trans q) (by decide)) (fun q => absurd (hw.symm.trans q) (by decide)) (fun q => absurd (hw.symm.trans q) (by decide)) (fun q => absurd (hw.symm.trans q) (by decide)) (fun q => absurd (hw.symm.trans q) (by decide)) (fun q => absurd (hw.symm.trans q) (by decide)) (fun q => absurd (hw.symm.trans q) (by decide)) (fun _ => k) (fun q => absurd (hw.symm.trans q) (by decide)) (fun q => absurd (hw.symm.trans q) (by decide)) (fun q => absurd (hw.symm.trans q) (by decide)) (fun q => absurd (hw.symm.trans q) (by decide)) (fun q => absurd (hw.symm.trans q) (by decide)) (fun q => absurd (hw.symm.trans q) (by decide)) (fun q => absurd (hw.symm.trans q) (by decide)) (fun q => absurd (hw.symm.trans q) (by decide)) (fun q => absurd (hw.symm.trans q) (by decide)) (fun q => absurd (hw.symm.trans q) (by decide)) (fun q => absurd (hw.symm.trans q) (by decide)) (fun q => absurd (hw.symm.trans q) (by decide)) (fun q => absurd (hw.symm.trans q) (by decide)) (fun q => absurd (hw.symm.trans q) (by decide)) (fun q => absurd (hw.symm.trans q) (by decide)) (fun q => absurd (hw.symm.trans q) (by decide)) (fun q => absurd (hw.symm.trans q) (by decide)) (fun q => absurd (hw.symm.trans q) (by decide)) (fun q => absurd (hw.symm.trans q) (by decide)) (fun q => absurd (show 0 ≤ p_and (I 0 i.toNat) 63 ∧ p_and (I 0 i.toNat) 63 ≤ 36 by rw [hw]; decide) q)
theorem sl_18 {r : PO × PM} (hi : 0 ≤ i ∧ i < (L : Int)) (hw : p_and (I 0 i.toNat) 63 = 18) (k : Ev 62 mL_law (1474, lwL L i, [], (I, S)) r) : Ev 62 mL_law (33, lwL L i, [], (I, S)) r :=
  b5_L_law_33 hi (fun q => absurd (hw.symm.trans q) (by decide)) (fun q => absurd (hw.symm.trans q) (by decide)) (fun q => absurd (hw.symm.trans q) (by decide)) (fun q => absurd (hw.symm.trans q) (by decide)) (fun q => absurd (hw.symm.trans q) (by decide)) (fun q => absurd (hw.symm.trans q) (by decide)) (fun q => absurd (hw.symm.trans q) (by decide)) (fun q => absurd (hw.symm.trans q) (by decide)) (fun q => absurd (hw.symm.trans q) (by decide)) (fun q => absurd (hw.symm.trans q) (by decide)) (fun q => absurd (hw.symm.trans q) (by decide)) (fun q => absurd (hw.symm.trans q) (by decide)) (fun q => absurd (hw.symm.trans q) (by decide)) (fun q => absurd (hw.symm.trans q) (by decide)) (fun q => absurd (hw.symm.trans q) (by decide)) (fun q => absurd (hw.symm.trans q) (by decide)) (fun q => absurd (hw.symm.trans q) (by decide)) (fun q => absurd (hw.symm.trans q) (by decide)) (fun _ => k) (fun q => absurd (hw.symm.trans q) (by decide)) (fun q => absurd (hw.symm.trans q) (by decide)) (fun q => absurd (hw.symm.trans q) (by decide)) (fun q => absurd (hw.symm.trans q) (by decide)) (fun q => absurd (hw.symm.trans q) (by decide)) (fun q => absurd (hw.symm.trans q) (by decide)) (fun q => absurd (hw.symm.trans q) (by decide)) (fun q => absurd (hw.symm.trans q) (by decide)) (fun q => absurd (hw.symm.trans q) (by decide)) (fun q => absurd (hw.symm.trans q) (by decide)) (fun q => absurd (hw.symm.trans q) (by decide)) (fun q => absurd (hw.symm.trans q) (by decide)) (fun q => absurd (hw.symm.trans q) (by decide)) (fun q => absurd (hw.symm.trans q) (by decide)) (fun q => absurd (hw.symm.trans q) (by decide)) (fun q => absurd (hw.symm.trans q) (by decide)) (fun q => absurd (hw.symm.trans q) (by decide)) (fun q => absurd (hw.symm.trans q) (by decide)) (fun q => absurd (show 0 ≤ p_and (I 0 i.toNat) 63 ∧ p_and (I 0 i.toNat) 63 ≤ 36 by rw [hw]; decide) q)
theorem sl_19 {r : PO × PM} (hi : 0 ≤ i ∧ i < (L : Int)) (hw : p_and (I 0 i.toNat) 63 = 19) (k : Ev 62 mL_law (1542, lwL L i, [], (I, S)) r) : Ev 62 mL_law (33, lwL L i, [], (I, S)) r :=
  b5_L_law_33 hi (fun q => absurd (hw.symm.trans q) (by decide)) (fun q => absurd (hw.symm.trans q) (by decide)) (fun q => absurd (hw.symm.trans q) (by decide)) (fun q => absurd (hw.symm.trans q) (by decide)) (fun q => absurd (hw.symm.trans q) (by decide)) (fun q => absurd (hw.symm.trans q) (by decide)) (fun q => absurd (hw.symm.trans q) (by decide)) (fun q => absurd (hw.symm.trans q) (by decide)) (fun q => absurd (hw.symm.trans q) (by decide)) (fun q => absurd (hw.symm.trans q) (by decide)) (fun q => absurd (hw.symm.trans q) (by decide)) (fun q => absurd (hw.symm.trans q) (by decide)) (fun q => absurd (hw.symm.trans q) (by decide)) (fun q => absurd (hw.symm.trans q) (by decide)) (fun q => absurd (hw.symm.trans q) (by decide)) (fun q => absurd (hw.symm.trans q) (by decide)) (fun q => absurd (hw.symm.trans q) (by decide)) (fun q => absurd (hw.symm.trans q) (by decide)) (fun q => absurd (hw.symm.trans q) (by decide)) (fun _ => k) (fun q => absurd (hw.symm.trans q) (by decide)) (fun q => absurd (hw.symm.trans q) (by decide)) (fun q => absurd (hw.symm.trans q) (by decide)) (fun q => absurd (hw.symm.trans q) (by decide)) (fun q => absurd (hw.symm.trans q) (by decide)) (fun q => absurd (hw.symm.trans q) (by decide)) (fun q => absurd (hw.symm.trans q) (by decide)) (fun q => absurd (hw.symm.trans q) (by decide)) (fun q => absurd (hw.symm.trans q) (by decide)) (fun q => absurd (hw.symm.trans q) (by decide)) (fun q => absurd (hw.symm.trans q) (by decide)) (fun q => absurd (hw.symm.trans q) (by decide)) (fun q => absurd (hw.symm.trans q) (by decide)) (fun q => absurd (hw.symm.trans q) (by decide)) (fun q => absurd (hw.symm.trans q) (by decide)) (fun q => absurd (hw.symm.trans q) (by decide)) (fun q => absurd (hw.symm.trans q) (by decide)) (fun q => absurd (show 0 ≤ p_and (I 0 i.toNat) 63 ∧ p_and (I 0 i.toNat) 63 ≤ 36 by rw [hw]; decide) q)
theorem sl_20 {r : PO × PM} (hi : 0 ≤ i ∧ i < (L : Int)) (hw : p_and (I 0 i.toNat) 63 = 20) (k : Ev 62 mL_law (1610, lwL L i, [], (I, S)) r) : Ev 62 mL_law (33, lwL L i, [], (I, S)) r :=
  b5_L_law_33 hi (fun q => absurd (hw.symm.trans q) (by decide)) (fun q => absurd (hw.symm.trans q) (by decide)) (fun q => absurd (hw.symm.trans q) (by decide)) (fun q => absurd (hw.symm.trans q) (by decide)) (fun q => absurd (hw.symm.trans q) (by decide)) (fun q => absurd (hw.symm.trans q) (by decide)) (fun q => absurd (hw.symm.trans q) (by decide)) (fun q => absurd (hw.symm.trans q) (by decide)) (fun q => absurd (hw.symm.trans q) (by decide)) (fun q => absurd (hw.symm.trans q) (by decide)) (fun q => absurd (hw.symm.trans q) (by decide)) (fun q => absurd (hw.symm.trans q) (by decide)) (fun q => absurd (hw.symm.trans q) (by decide)) (fun q => absurd (hw.symm.trans q) (by decide)) (fun q => absurd (hw.symm.trans q) (by decide)) (fun q => absurd (hw.symm.trans q) (by decide)) (fun q => absurd (hw.symm.trans q) (by decide)) (fun q => absurd (hw.symm.trans q) (by decide)) (fun q => absurd (hw.symm.trans q) (by decide)) (fun q => absurd (hw.symm.trans q) (by decide)) (fun _ => k) (fun q => absurd (hw.symm.trans q) (by decide)) (fun q => absurd (hw.symm.trans q) (by decide)) (fun q => absurd (hw.symm.trans q) (by decide)) (fun q => absurd (hw.symm.trans q) (by decide)) (fun q => absurd (hw.symm.trans q) (by decide)) (fun q => absurd (hw.symm.trans q) (by decide)) (fun q => absurd (hw.symm.trans q) (by decide)) (fun q => absurd (hw.symm.trans q) (by decide)) (fun q => absurd (hw.symm.trans q) (by decide)) (fun q => absurd (hw.symm.trans q) (by decide)) (fun q => absurd (hw.symm.trans q) (by decide)) (fun q => absurd (hw.symm.trans q) (by decide)) (fun q => absurd (hw.symm.trans q) (by decide)) (fun q => absurd (hw.symm.trans q) (by decide)) (fun q => absurd (hw.symm.trans q) (by decide)) (fun q => absurd (hw.symm.trans q) (by decide)) (fun q => absurd (show 0 ≤ p_and (I 0 i.toNat) 63 ∧ p_and (I 0 i.toNat) 63 ≤ 36 by rw [hw]; decide) q)
theorem sl_21 {r : PO × PM} (hi : 0 ≤ i ∧ i < (L : Int)) (hw : p_and (I 0 i.toNat) 63 = 21) (k : Ev 62 mL_law (1666, lwL L i, [], (I, S)) r) : Ev 62 mL_law (33, lwL L i, [], (I, S)) r :=
  b5_L_law_33 hi (fun q => absurd (hw.symm.trans q) (by decide)) (fun q => absurd (hw.symm.trans q) (by decide)) (fun q => absurd (hw.symm.trans q) (by decide)) (fun q => absurd (hw.symm.trans q) (by decide)) (fun q => absurd (hw.symm.trans q) (by decide)) (fun q => absurd (hw.symm.trans q) (by decide)) (fun q => absurd (hw.symm.trans q) (by decide)) (fun q => absurd (hw.symm.trans q) (by decide)) (fun q => absurd (hw.symm.trans q) (by decide)) (fun q => absurd (hw.symm.trans q) (by decide)) (fun q => absurd (hw.symm.trans q) (by decide)) (fun q => absurd (hw.symm.trans q) (by decide)) (fun q => absurd (hw.symm.trans q) (by decide)) (fun q => absurd (hw.symm.trans q) (by decide)) (fun q => absurd (hw.symm.trans q) (by decide)) (fun q => absurd (hw.symm.trans q) (by decide)) (fun q => absurd (hw.symm.trans q) (by decide)) (fun q => absurd (hw.symm.trans q) (by decide)) (fun q => absurd (hw.symm.trans q) (by decide)) (fun q => absurd (hw.symm.trans q) (by decide)) (fun q => absurd (hw.symm.trans q) (by decide)) (fun _ => k) (fun q => absurd (hw.symm.trans q) (by decide)) (fun q => absurd (hw.symm.trans q) (by decide)) (fun q => absurd (hw.symm.trans q) (by decide)) (fun q => absurd (hw.symm.trans q) (by decide)) (fun q => absurd (hw.symm.trans q) (by decide)) (fun q => absurd (hw.symm.trans q) (by decide)) (fun q => absurd (hw.symm.trans q) (by decide)) (fun q => absurd (hw.symm.trans q) (by decide)) (fun q => absurd (hw.symm.trans q) (by decide)) (fun q => absurd (hw.symm.trans q) (by decide)) (fun q => absurd (hw.symm.trans q) (by decide)) (fun q => absurd (hw.symm.trans q) (by decide)) (fun q => absurd (hw.symm.trans q) (by decide)) (fun q => absurd (hw.symm.trans q) (by decide)) (fun q => absurd (hw.symm.trans q) (by decide)) (fun q => absurd (show 0 ≤ p_and (I 0 i.toNat) 63 ∧ p_and (I 0 i.toNat) 63 ≤ 36 by rw [hw]; decide) q)
theorem sl_22 {r : PO × PM} (hi : 0 ≤ i ∧ i < (L : Int)) (hw : p_and (I 0 i.toNat) 63 = 22) (k : Ev 62 mL_law (1734, lwL L i, [], (I, S)) r) : Ev 62 mL_law (33, lwL L i, [], (I, S)) r :=
  b5_L_law_33 hi (fun q => absurd (hw.symm.trans q) (by decide)) (fun q => absurd (hw.symm.trans q) (by decide)) (fun q => absurd (hw.symm.trans q) (by decide)) (fun q => absurd (hw.symm.trans q) (by decide)) (fun q => absurd (hw.symm.trans q) (by decide)) (fun q => absurd (hw.symm.trans q) (by decide)) (fun q => absurd (hw.symm.trans q) (by decide)) (fun q => absurd (hw.symm.trans q) (by decide)) (fun q => absurd (hw.symm.trans q) (by decide)) (fun q => absurd (hw.symm.trans q) (by decide)) (fun q => absurd (hw.symm.trans q) (by decide)) (fun q => absurd (hw.symm.trans q) (by decide)) (fun q => absurd (hw.symm.trans q) (by decide)) (fun q => absurd (hw.symm.trans q) (by decide)) (fun q => absurd (hw.symm.trans q) (by decide)) (fun q => absurd (hw.symm.trans q) (by decide)) (fun q => absurd (hw.symm.trans q) (by decide)) (fun q => absurd (hw.symm.trans q) (by decide)) (fun q => absurd (hw.symm.trans q) (by decide)) (fun q => absurd (hw.symm.trans q) (by decide)) (fun q => absurd (hw.symm.trans q) (by decide)) (fun q => absurd (hw.symm.trans q) (by decide)) (fun _ => k) (fun q => absurd (hw.symm.trans q) (by decide)) (fun q => absurd (hw.symm.trans q) (by decide)) (fun q => absurd (hw.symm.trans q) (by decide)) (fun q => absurd (hw.symm.trans q) (by decide)) (fun q => absurd (hw.symm.trans q) (by decide)) (fun q => absurd (hw.symm.trans q) (by decide)) (fun q => absurd (hw.symm.trans q) (by decide)) (fun q => absurd (hw.symm.trans q) (by decide)) (fun q => absurd (hw.symm.trans q) (by decide)) (fun q => absurd (hw.symm.trans q) (by decide)) (fun q => absurd (hw.symm.trans q) (by decide)) (fun q => absurd (hw.symm.trans q) (by decide)) (fun q => absurd (hw.symm.trans q) (by decide)) (fun q => absurd (hw.symm.trans q) (by decide)) (fun q => absurd (show 0 ≤ p_and (I 0 i.toNat) 63 ∧ p_and (I 0 i.toNat) 63 ≤ 36 by rw [hw]; decide) q)
theorem sl_23 {r : PO × PM} (hi : 0 ≤ i ∧ i < (L : Int)) (hw : p_and (I 0 i.toNat) 63 = 23) (k : Ev 62 mL_law (1802, lwL L i, [], (I, S)) r) : Ev 62 mL_law (33, lwL L i, [], (I, S)) r :=
  b5_L_law_33 hi (fun q => absurd (hw.symm.trans q) (by decide)) (fun q => absurd (hw.symm.trans q) (by decide)) (fun q => absurd (hw.symm.trans q) (by decide)) (fun q => absurd (hw.symm.trans q) (by decide)) (fun q => absurd (hw.symm.trans q) (by decide)) (fun q => absurd (hw.symm.trans q) (by decide)) (fun q => absurd (hw.symm.trans q) (by decide)) (fun q => absurd (hw.symm.trans q) (by decide)) (fun q => absurd (hw.symm.trans q) (by decide)) (fun q => absurd (hw.symm.trans q) (by decide)) (fun q => absurd (hw.symm.trans q) (by decide)) (fun q => absurd (hw.symm.trans q) (by decide)) (fun q => absurd (hw.symm.trans q) (by decide)) (fun q => absurd (hw.symm.trans q) (by decide)) (fun q => absurd (hw.symm.trans q) (by decide)) (fun q => absurd (hw.symm.trans q) (by decide)) (fun q => absurd (hw.symm.trans q) (by decide)) (fun q => absurd (hw.symm.trans q) (by decide)) (fun q => absurd (hw.symm.trans q) (by decide)) (fun q => absurd (hw.symm.trans q) (by decide)) (fun q => absurd (hw.symm.trans q) (by decide)) (fun q => absurd (hw.symm.trans q) (by decide)) (fun q => absurd (hw.symm.trans q) (by decide)) (fun _ => k) (fun q => absurd (hw.symm.trans q) (by decide)) (fun q => absurd (hw.symm.trans q) (by decide)) (fun q => absurd (hw.symm.trans q) (by decide)) (fun q => absurd (hw.symm.trans q) (by decide)) (fun q => absurd (hw.symm.trans q) (by decide)) (fun q => absurd (hw.symm.trans q) (by decide)) (fun q => absurd (hw.symm.trans q) (by decide)) (fun q => absurd (hw.symm.trans q) (by decide)) (fun q => absurd (hw.symm.trans q) (by decide)) (fun q => absurd (hw.symm.trans q) (by decide)) (fun q => absurd (hw.symm.trans q) (by decide)) (fun q => absurd (hw.symm.trans q) (by decide)) (fun q => absurd (hw.symm.trans q) (by decide)) (fun q => absurd (show 0 ≤ p_and (I 0 i.toNat) 63 ∧ p_and (I 0 i.toNat) 63 ≤ 36 by rw [hw]; decide) q)
theorem sl_24 {r : PO × PM} (hi : 0 ≤ i ∧ i < (L : Int)) (hw : p_and (I 0 i.toNat) 63 = 24) (k : Ev 62 mL_law (1815, lwL L i, [], (I, S)) r) : Ev 62 mL_law (33, lwL L i, [], (I, S)) r :=
  b5_L_law_33 hi (fun q => absurd (hw.symm.trans q) (by decide)) (fun q => absurd (hw.symm.trans q) (by decide)) (fun q => absurd (hw.symm.trans q) (by decide)) (fun q => absurd (hw.symm.trans q) (by decide)) (fun q => absurd (hw.symm.trans q) (by decide)) (fun q => absurd (hw.symm.trans q) (by decide)) (fun q => absurd (hw.symm.trans q) (by decide)) (fun q => absurd (hw.symm.trans q) (by decide)) (fun q => absurd (hw.symm.trans q) (by decide)) (fun q => absurd (hw.symm.trans q) (by decide)) (fun q => absurd (hw.symm.trans q) (by decide)) (fun q => absurd (hw.symm.trans q) (by decide)) (fun q => absurd (hw.symm.trans q) (by decide)) (fun q => absurd (hw.symm.trans q) (by decide)) (fun q => absurd (hw.symm.trans q) (by decide)) (fun q => absurd (hw.symm.trans q) (by decide)) (fun q => absurd (hw.symm.trans q) (by decide)) (fun q => absurd (hw.symm.trans q) (by decide)) (fun q => absurd (hw.symm.trans q) (by decide)) (fun q => absurd (hw.symm.trans q) (by decide)) (fun q => absurd (hw.symm.trans q) (by decide)) (fun q => absurd (hw.symm.trans q) (by decide)) (fun q => absurd (hw.symm.trans q) (by decide)) (fun q => absurd (hw.symm.trans q) (by decide)) (fun _ => k) (fun q => absurd (hw.symm.trans q) (by decide)) (fun q => absurd (hw.symm.trans q) (by decide)) (fun q => absurd (hw.symm.trans q) (by decide)) (fun q => absurd (hw.symm.trans q) (by decide)) (fun q => absurd (hw.symm.trans q) (by decide)) (fun q => absurd (hw.symm.trans q) (by decide)) (fun q => absurd (hw.symm.trans q) (by decide)) (fun q => absurd (hw.symm.trans q) (by decide)) (fun q => absurd (hw.symm.trans q) (by decide)) (fun q => absurd (hw.symm.trans q) (by decide)) (fun q => absurd (hw.symm.trans q) (by decide)) (fun q => absurd (hw.symm.trans q) (by decide)) (fun q => absurd (show 0 ≤ p_and (I 0 i.toNat) 63 ∧ p_and (I 0 i.toNat) 63 ≤ 36 by rw [hw]; decide) q)
theorem sl_25 {r : PO × PM} (hi : 0 ≤ i ∧ i < (L : Int)) (hw : p_and (I 0 i.toNat) 63 = 25) (k : Ev 62 mL_law (1883, lwL L i, [], (I, S)) r) : Ev 62 mL_law (33, lwL L i, [], (I, S)) r :=
  b5_L_law_33 hi (fun q => absurd (hw.symm.trans q) (by decide)) (fun q => absurd (hw.symm.trans q) (by decide)) (fun q => absurd (hw.symm.trans q) (by decide)) (fun q => absurd (hw.symm.trans q) (by decide)) (fun q => absurd (hw.symm.trans q) (by decide)) (fun q => absurd (hw.symm.trans q) (by decide)) (fun q => absurd (hw.symm.trans q) (by decide)) (fun q => absurd (hw.symm.trans q) (by decide)) (fun q => absurd (hw.symm.trans q) (by decide)) (fun q => absurd (hw.symm.trans q) (by decide)) (fun q => absurd (hw.symm.trans q) (by decide)) (fun q => absurd (hw.symm.trans q) (by decide)) (fun q => absurd (hw.symm.trans q) (by decide)) (fun q => absurd (hw.symm.trans q) (by decide)) (fun q => absurd (hw.symm.trans q) (by decide)) (fun q => absurd (hw.symm.trans q) (by decide)) (fun q => absurd (hw.symm.trans q) (by decide)) (fun q => absurd (hw.symm.trans q) (by decide)) (fun q => absurd (hw.symm.trans q) (by decide)) (fun q => absurd (hw.symm.trans q) (by decide)) (fun q => absurd (hw.symm.trans q) (by decide)) (fun q => absurd (hw.symm.trans q) (by decide)) (fun q => absurd (hw.symm.trans q) (by decide)) (fun q => absurd (hw.symm.trans q) (by decide)) (fun q => absurd (hw.symm.trans q) (by decide)) (fun _ => k) (fun q => absurd (hw.symm.trans q) (by decide)) (fun q => absurd (hw.symm.trans q) (by decide)) (fun q => absurd (hw.symm.trans q) (by decide)) (fun q => absurd (hw.symm.trans q) (by decide)) (fun q => absurd (hw.symm.trans q) (by decide)) (fun q => absurd (hw.symm.trans q) (by decide)) (fun q => absurd (hw.symm.trans q) (by decide)) (fun q => absurd (hw.symm.trans q) (by decide)) (fun q => absurd (hw.symm.trans q) (by decide)) (fun q => absurd (hw.symm.trans q) (by decide)) (fun q => absurd (hw.symm.trans q) (by decide)) (fun q => absurd (show 0 ≤ p_and (I 0 i.toNat) 63 ∧ p_and (I 0 i.toNat) 63 ≤ 36 by rw [hw]; decide) q)
theorem sl_26 {r : PO × PM} (hi : 0 ≤ i ∧ i < (L : Int)) (hw : p_and (I 0 i.toNat) 63 = 26) (k : Ev 62 mL_law (1939, lwL L i, [], (I, S)) r) : Ev 62 mL_law (33, lwL L i, [], (I, S)) r :=
  b5_L_law_33 hi (fun q => absurd (hw.symm.trans q) (by decide)) (fun q => absurd (hw.symm.trans q) (by decide)) (fun q => absurd (hw.symm.trans q) (by decide)) (fun q => absurd (hw.symm.trans q) (by decide)) (fun q => absurd (hw.symm.trans q) (by decide)) (fun q => absurd (hw.symm.trans q) (by decide)) (fun q => absurd (hw.symm.trans q) (by decide)) (fun q => absurd (hw.symm.trans q) (by decide)) (fun q => absurd (hw.symm.trans q) (by decide)) (fun q => absurd (hw.symm.trans q) (by decide)) (fun q => absurd (hw.symm.trans q) (by decide)) (fun q => absurd (hw.symm.trans q) (by decide)) (fun q => absurd (hw.symm.trans q) (by decide)) (fun q => absurd (hw.symm.trans q) (by decide)) (fun q => absurd (hw.symm.trans q) (by decide)) (fun q => absurd (hw.symm.trans q) (by decide)) (fun q => absurd (hw.symm.trans q) (by decide)) (fun q => absurd (hw.symm.trans q) (by decide)) (fun q => absurd (hw.symm.trans q) (by decide)) (fun q => absurd (hw.symm.trans q) (by decide)) (fun q => absurd (hw.symm.trans q) (by decide)) (fun q => absurd (hw.symm.trans q) (by decide)) (fun q => absurd (hw.symm.trans q) (by decide)) (fun q => absurd (hw.symm.trans q) (by decide)) (fun q => absurd (hw.symm.trans q) (by decide)) (fun q => absurd (hw.symm.trans q) (by decide)) (fun _ => k) (fun q => absurd (hw.symm.trans q) (by decide)) (fun q => absurd (hw.symm.trans q) (by decide)) (fun q => absurd (hw.symm.trans q) (by decide)) (fun q => absurd (hw.symm.trans q) (by decide)) (fun q => absurd (hw.symm.trans q) (by decide)) (fun q => absurd (hw.symm.trans q) (by decide)) (fun q => absurd (hw.symm.trans q) (by decide)) (fun q => absurd (hw.symm.trans q) (by decide)) (fun q => absurd (hw.symm.trans q) (by decide)) (fun q => absurd (hw.symm.trans q) (by decide)) (fun q => absurd (show 0 ≤ p_and (I 0 i.toNat) 63 ∧ p_and (I 0 i.toNat) 63 ≤ 36 by rw [hw]; decide) q)
theorem sl_27 {r : PO × PM} (hi : 0 ≤ i ∧ i < (L : Int)) (hw : p_and (I 0 i.toNat) 63 = 27) (k : Ev 62 mL_law (1952, lwL L i, [], (I, S)) r) : Ev 62 mL_law (33, lwL L i, [], (I, S)) r :=
  b5_L_law_33 hi (fun q => absurd (hw.symm.trans q) (by decide)) (fun q => absurd (hw.symm.trans q) (by decide)) (fun q => absurd (hw.symm.trans q) (by decide)) (fun q => absurd (hw.symm.trans q) (by decide)) (fun q => absurd (hw.symm.trans q) (by decide)) (fun q => absurd (hw.symm.trans q) (by decide)) (fun q => absurd (hw.symm.trans q) (by decide)) (fun q => absurd (hw.symm.trans q) (by decide)) (fun q => absurd (hw.symm.trans q) (by decide)) (fun q => absurd (hw.symm.trans q) (by decide)) (fun q => absurd (hw.symm.trans q) (by decide)) (fun q => absurd (hw.symm.trans q) (by decide)) (fun q => absurd (hw.symm.trans q) (by decide)) (fun q => absurd (hw.symm.trans q) (by decide)) (fun q => absurd (hw.symm.trans q) (by decide)) (fun q => absurd (hw.symm.trans q) (by decide)) (fun q => absurd (hw.symm.trans q) (by decide)) (fun q => absurd (hw.symm.trans q) (by decide)) (fun q => absurd (hw.symm.trans q) (by decide)) (fun q => absurd (hw.symm.trans q) (by decide)) (fun q => absurd (hw.symm.trans q) (by decide)) (fun q => absurd (hw.symm.trans q) (by decide)) (fun q => absurd (hw.symm.trans q) (by decide)) (fun q => absurd (hw.symm.trans q) (by decide)) (fun q => absurd (hw.symm.trans q) (by decide)) (fun q => absurd (hw.symm.trans q) (by decide)) (fun q => absurd (hw.symm.trans q) (by decide)) (fun _ => k) (fun q => absurd (hw.symm.trans q) (by decide)) (fun q => absurd (hw.symm.trans q) (by decide)) (fun q => absurd (hw.symm.trans q) (by decide)) (fun q => absurd (hw.symm.trans q) (by decide)) (fun q => absurd (hw.symm.trans q) (by decide)) (fun q => absurd (hw.symm.trans q) (by decide)) (fun q => absurd (hw.symm.trans q) (by decide)) (fun q => absurd (hw.symm.trans q) (by decide)) (fun q => absurd (hw.symm.trans q) (by decide)) (fun q => absurd (show 0 ≤ p_and (I 0 i.toNat) 63 ∧ p_and (I 0 i.toNat) 63 ≤ 36 by rw [hw]; decide) q)
theorem sl_28 {r : PO × PM} (hi : 0 ≤ i ∧ i < (L : Int)) (hw : p_and (I 0 i.toNat) 63 = 28) (k : Ev 62 mL_law (2020, lwL L i, [], (I, S)) r) : Ev 62 mL_law (33, lwL L i, [], (I, S)) r :=
  b5_L_law_33 hi (fun q => absurd (hw.symm.trans q) (by decide)) (fun q => absurd (hw.symm.trans q) (by decide)) (fun q => absurd (hw.symm.trans q) (by decide)) (fun q => absurd (hw.symm.trans q) (by decide)) (fun q => absurd (hw.symm.trans q) (by decide)) (fun q => absurd (hw.symm.trans q) (by decide)) (fun q => absurd (hw.symm.trans q) (by decide)) (fun q => absurd (hw.symm.trans q) (by decide)) (fun q => absurd (hw.symm.trans q) (by decide)) (fun q => absurd (hw.symm.trans q) (by decide)) (fun q => absurd (hw.symm.trans q) (by decide)) (fun q => absurd (hw.symm.trans q) (by decide)) (fun q => absurd (hw.symm.trans q) (by decide)) (fun q => absurd (hw.symm.trans q) (by decide)) (fun q => absurd (hw.symm.trans q) (by decide)) (fun q => absurd (hw.symm.trans q) (by decide)) (fun q => absurd (hw.symm.trans q) (by decide)) (fun q => absurd (hw.symm.trans q) (by decide)) (fun q => absurd (hw.symm.trans q) (by decide)) (fun q => absurd (hw.symm.trans q) (by decide)) (fun q => absurd (hw.symm.trans q) (by decide)) (fun q => absurd (hw.symm.trans q) (by decide)) (fun q => absurd (hw.symm.trans q) (by decide)) (fun q => absurd (hw.symm.trans q) (by decide)) (fun q => absurd (hw.symm.trans q) (by decide)) (fun q => absurd (hw.symm.trans q) (by decide)) (fun q => absurd (hw.symm.trans q) (by decide)) (fun q => absurd (hw.symm.trans q) (by decide)) (fun _ => k) (fun q => absurd (hw.symm.trans q) (by decide)) (fun q => absurd (hw.symm.trans q) (by decide)) (fun q => absurd (hw.symm.trans q) (by decide)) (fun q => absurd (hw.symm.trans q) (by decide)) (fun q => absurd (hw.symm.trans q) (by decide)) (fun q => absurd (hw.symm.trans q) (by decide)) (fun q => absurd (hw.symm.trans q) (by decide)) (fun q => absurd (hw.symm.trans q) (by decide)) (fun q => absurd (show 0 ≤ p_and (I 0 i.toNat) 63 ∧ p_and (I 0 i.toNat) 63 ≤ 36 by rw [hw]; decide) q)
theorem sl_29 {r : PO × PM} (hi : 0 ≤ i ∧ i < (L : Int)) (hw : p_and (I 0 i.toNat) 63 = 29) (k : Ev 62 mL_law (2076, lwL L i, [], (I, S)) r) : Ev 62 mL_law (33, lwL L i, [], (I, S)) r :=
  b5_L_law_33 hi (fun q => absurd (hw.symm.trans q) (by decide)) (fun q => absurd (hw.symm.trans q) (by decide)) (fun q => absurd (hw.symm.trans q) (by decide)) (fun q => absurd (hw.symm.trans q) (by decide)) (fun q => absurd (hw.symm.trans q) (by decide)) (fun q => absurd (hw.symm.trans q) (by decide)) (fun q => absurd (hw.symm.trans q) (by decide)) (fun q => absurd (hw.symm.trans q) (by decide)) (fun q => absurd (hw.symm.trans q) (by decide)) (fun q => absurd (hw.symm.trans q) (by decide)) (fun q => absurd (hw.symm.trans q) (by decide)) (fun q => absurd (hw.symm.trans q) (by decide)) (fun q => absurd (hw.symm.trans q) (by decide)) (fun q => absurd (hw.symm.trans q) (by decide)) (fun q => absurd (hw.symm.trans q) (by decide)) (fun q => absurd (hw.symm.trans q) (by decide)) (fun q => absurd (hw.symm.trans q) (by decide)) (fun q => absurd (hw.symm.trans q) (by decide)) (fun q => absurd (hw.symm.trans q) (by decide)) (fun q => absurd (hw.symm.trans q) (by decide)) (fun q => absurd (hw.symm.trans q) (by decide)) (fun q => absurd (hw.symm.trans q) (by decide)) (fun q => absurd (hw.symm.trans q) (by decide)) (fun q => absurd (hw.symm.trans q) (by decide)) (fun q => absurd (hw.symm.trans q) (by decide)) (fun q => absurd (hw.symm.trans q) (by decide)) (fun q => absurd (hw.symm.trans q) (by decide)) (fun q => absurd (hw.symm.trans q) (by decide)) (fun q => absurd (hw.symm.trans q) (by decide)) (fun _ => k) (fun q => absurd (hw.symm.trans q) (by decide)) (fun q => absurd (hw.symm.trans q) (by decide)) (fun q => absurd (hw.symm.trans q) (by decide)) (fun q => absurd (hw.symm.trans q) (by decide)) (fun q => absurd (hw.symm.trans q) (by decide)) (fun q => absurd (hw.symm.trans q) (by decide)) (fun q => absurd (hw.symm.trans q) (by decide)) (fun q => absurd (show 0 ≤ p_and (I 0 i.toNat) 63 ∧ p_and (I 0 i.toNat) 63 ≤ 36 by rw [hw]; decide) q)
theorem sl_30 {r : PO × PM} (hi : 0 ≤ i ∧ i < (L : Int)) (hw : p_and (I 0 i.toNat) 63 = 30) (k : Ev 62 mL_law (2132, lwL L i, [], (I, S)) r) : Ev 62 mL_law (33, lwL L i, [], (I, S)) r :=
  b5_L_law_33 hi (fun q => absurd (hw.symm.trans q) (by decide)) (fun q => absurd (hw.symm.trans q) (by decide)) (fun q => absurd (hw.symm.trans q) (by decide)) (fun q => absurd (hw.symm.trans q) (by decide)) (fun q => absurd (hw.symm.trans q) (by decide)) (fun q => absurd (hw.symm.trans q) (by decide)) (fun q => absurd (hw.symm.trans q) (by decide)) (fun q => absurd (hw.symm.trans q) (by decide)) (fun q => absurd (hw.symm.trans q) (by decide)) (fun q => absurd (hw.symm.trans q) (by decide)) (fun q => absurd (hw.symm.trans q) (by decide)) (fun q => absurd (hw.symm.trans q) (by decide)) (fun q => absurd (hw.symm.trans q) (by decide)) (fun q => absurd (hw.symm.trans q) (by decide)) (fun q => absurd (hw.symm.trans q) (by decide)) (fun q => absurd (hw.symm.trans q) (by decide)) (fun q => absurd (hw.symm.trans q) (by decide)) (fun q => absurd (hw.symm.trans q) (by decide)) (fun q => absurd (hw.symm.trans q) (by decide)) (fun q => absurd (hw.symm.trans q) (by decide)) (fun q => absurd (hw.symm.trans q) (by decide)) (fun q => absurd (hw.symm.trans q) (by decide)) (fun q => absurd (hw.symm.trans q) (by decide)) (fun q => absurd (hw.symm.trans q) (by decide)) (fun q => absurd (hw.symm.trans q) (by decide)) (fun q => absurd (hw.symm.trans q) (by decide)) (fun q => absurd (hw.symm.trans q) (by decide)) (fun q => absurd (hw.symm.trans q) (by decide)) (fun q => absurd (hw.symm.trans q) (by decide)) (fun q => absurd (hw.symm.trans q) (by decide)) (fun _ => k) (fun q => absurd (hw.symm.trans q) (by decide)) (fun q => absurd (hw.symm.trans q) (by decide)) (fun q => absurd (hw.symm.trans q) (by decide)) (fun q => absurd (hw.symm.trans q) (by decide)) (fun q => absurd (hw.symm.trans q) (by decide)) (fun q => absurd (hw.symm.trans q) (by decide)) (fun q => absurd (show 0 ≤ p_and (I 0 i.toNat) 63 ∧ p_and (I 0 i.toNat) 63 ≤ 36 by rw [hw]; decide) q)
theorem sl_31 {r : PO × PM} (hi : 0 ≤ i ∧ i < (L : Int)) (hw : p_and (I 0 i.toNat) 63 = 31) (k : Ev 62 mL_law (2188, lwL L i, [], (I, S)) r) : Ev 62 mL_law (33, lwL L i, [], (I, S)) r :=
  b5_L_law_33 hi (fun q => absurd (hw.symm.trans q) (by decide)) (fun q => absurd (hw.symm.trans q) (by decide)) (fun q => absurd (hw.symm.trans q) (by decide)) (fun q => absurd (hw.symm.trans q) (by decide)) (fun q => absurd (hw.symm.trans q) (by decide)) (fun q => absurd (hw.symm.trans q) (by decide)) (fun q => absurd (hw.symm.trans q) (by decide)) (fun q => absurd (hw.symm.trans q) (by decide)) (fun q => absurd (hw.symm.trans q) (by decide)) (fun q => absurd (hw.symm.trans q) (by decide)) (fun q => absurd (hw.symm.trans q) (by decide)) (fun q => absurd (hw.symm.trans q) (by decide)) (fun q => absurd (hw.symm.trans q) (by decide)) (fun q => absurd (hw.symm.trans q) (by decide)) (fun q => absurd (hw.symm.trans q) (by decide)) (fun q => absurd (hw.symm.trans q) (by decide)) (fun q => absurd (hw.symm.trans q) (by decide)) (fun q => absurd (hw.symm.trans q) (by decide)) (fun q => absurd (hw.symm.trans q) (by decide)) (fun q => absurd (hw.symm.trans q) (by decide)) (fun q => absurd (hw.symm.trans q) (by decide)) (fun q => absurd (hw.symm.trans q) (by decide)) (fun q => absurd (hw.symm.trans q) (by decide)) (fun q => absurd (hw.symm.trans q) (by decide)) (fun q => absurd (hw.symm.trans q) (by decide)) (fun q => absurd (hw.symm.trans q) (by decide)) (fun q => absurd (hw.symm.trans q) (by decide)) (fun q => absurd (hw.symm.trans q) (by decide)) (fun q => absurd (hw.symm.trans q) (by decide)) (fun q => absurd (hw.symm.trans q) (by decide)) (fun q => absurd (hw.symm.trans q) (by decide)) (fun _ => k) (fun q => absurd (hw.symm.trans q) (by decide)) (fun q => absurd (hw.symm.trans q) (by decide)) (fun q => absurd (hw.symm.trans q) (by decide)) (fun q => absurd (hw.symm.trans q) (by decide)) (fun q => absurd (hw.symm.trans q) (by decide)) (fun q => absurd (show 0 ≤ p_and (I 0 i.toNat) 63 ∧ p_and (I 0 i.toNat) 63 ≤ 36 by rw [hw]; decide) q)
theorem sl_32 {r : PO × PM} (hi : 0 ≤ i ∧ i < (L : Int)) (hw : p_and (I 0 i.toNat) 63 = 32) (k : Ev 62 mL_law (2256, lwL L i, [], (I, S)) r) : Ev 62 mL_law (33, lwL L i, [], (I, S)) r :=
  b5_L_law_33 hi (fun q => absurd (hw.symm.trans q) (by decide)) (fun q => absurd (hw.symm.trans q) (by decide)) (fun q => absurd (hw.symm.trans q) (by decide)) (fun q => absurd (hw.symm.trans q) (by decide)) (fun q => absurd (hw.symm.trans q) (by decide)) (fun q => absurd (hw.symm.trans q) (by decide)) (fun q => absurd (hw.symm.trans q) (by decide)) (fun q => absurd (hw.symm.trans q) (by decide)) (fun q => absurd (hw.symm.trans q) (by decide)) (fun q => absurd (hw.symm.trans q) (by decide)) (fun q => absurd (hw.symm.trans q) (by decide)) (fun q => absurd (hw.symm.trans q) (by decide)) (fun q => absurd (hw.symm.trans q) (by decide)) (fun q => absurd (hw.symm.trans q) (by decide)) (fun q => absurd (hw.symm.trans q) (by decide)) (fun q => absurd (hw.symm.trans q) (by decide)) (fun q => absurd (hw.symm.trans q) (by decide)) (fun q => absurd (hw.symm.trans q) (by decide)) (fun q => absurd (hw.symm.trans q) (by decide)) (fun q => absurd (hw.symm.trans q) (by decide)) (fun q => absurd (hw.symm.trans q) (by decide)) (fun q => absurd (hw.symm.trans q) (by decide)) (fun q => absurd (hw.symm.trans q) (by decide)) (fun q => absurd (hw.symm.trans q) (by decide)) (fun q => absurd (hw.symm.trans q) (by decide)) (fun q => absurd (hw.symm.trans q) (by decide)) (fun q => absurd (hw.symm.trans q) (by decide)) (fun q => absurd (hw.symm.trans q) (by decide)) (fun q => absurd (hw.symm.trans q) (by decide)) (fun q => absurd (hw.symm.trans q) (by decide)) (fun q => absurd (hw.symm.trans q) (by decide)) (fun q => absurd (hw.symm.trans q) (by decide)) (fun _ => k) (fun q => absurd (hw.symm.trans q) (by decide)) (fun q => absurd (hw.symm.trans q) (by decide)) (fun q => absurd (hw.symm.trans q) (by decide)) (fun q => absurd (hw.symm.trans q) (by decide)) (fun q => absurd (show 0 ≤ p_and (I 0 i.toNat) 63 ∧ p_and (I 0 i.toNat) 63 ≤ 36 by rw [hw]; decide) q)
theorem sl_33 {r : PO × PM} (hi : 0 ≤ i ∧ i < (L : Int)) (hw : p_and (I 0 i.toNat) 63 = 33) (k : Ev 62 mL_law (2267, lwL L i, [], (I, S)) r) : Ev 62 mL_law (33, lwL L i, [], (I, S)) r :=
  b5_L_law_33 hi (fun q => absurd (hw.symm.trans q) (by decide)) (fun q => absurd (hw.symm.trans q) (by decide)) (fun q => absurd (hw.symm.trans q) (by decide)) (fun q => absurd (hw.symm.trans q) (by decide)) (fun q => absurd (hw.symm.trans q) (by decide)) (fun q => absurd (hw.symm.trans q) (by decide)) (fun q => absurd (hw.symm.trans q) (by decide)) (fun q => absurd (hw.symm.trans q) (by decide)) (fun q => absurd (hw.symm.trans q) (by decide)) (fun q => absurd (hw.symm.trans q) (by decide)) (fun q => absurd (hw.symm.trans q) (by decide)) (fun q => absurd (hw.symm.trans q) (by decide)) (fun q => absurd (hw.symm.trans q) (by decide)) (fun q => absurd (hw.symm.trans q) (by decide)) (fun q => absurd (hw.symm.trans q) (by decide)) (fun q => absurd (hw.symm.trans q) (by decide)) (fun q => absurd (hw.symm.trans q) (by decide)) (fun q => absurd (hw.symm.trans q) (by decide)) (fun q => absurd (hw.symm.trans q) (by decide)) (fun q => absurd (hw.symm.trans q) (by decide)) (fun q => absurd (hw.symm.trans q) (by decide)) (fun q => absurd (hw.symm.trans q) (by decide)) (fun q => absurd (hw.symm.trans q) (by decide)) (fun q => absurd (hw.symm.trans q) (by decide)) (fun q => absurd (hw.symm.trans q) (by decide)) (fun q => absurd (hw.symm.trans q) (by decide)) (fun q => absurd (hw.symm.trans q) (by decide)) (fun q => absurd (hw.symm.trans q) (by decide)) (fun q => absurd (hw.symm.trans q) (by decide)) (fun q => absurd (hw.symm.trans q) (by decide)) (fun q => absurd (hw.symm.trans q) (by decide)) (fun q => absurd (hw.symm.trans q) (by decide)) (fun q => absurd (hw.symm.trans q) (by decide)) (fun _ => k) (fun q => absurd (hw.symm.trans q) (by decide)) (fun q => absurd (hw.symm.trans q) (by decide)) (fun q => absurd (hw.symm.trans q) (by decide)) (fun q => absurd (show 0 ≤ p_and (I 0 i.toNat) 63 ∧ p_and (I 0 i.toNat) 63 ≤ 36 by rw [hw]; decide) q)
theorem sl_34 {r : PO × PM} (hi : 0 ≤ i ∧ i < (L : Int)) (hw : p_and (I 0 i.toNat) 63 = 34) (k : Ev 62 mL_law (2323, lwL L i, [], (I, S)) r) : Ev 62 mL_law (33, lwL L i, [], (I, S)) r :=
  b5_L_law_33 hi (fun q => absurd (hw.symm.trans q) (by decide)) (fun q => absurd (hw.symm.trans q) (by decide)) (fun q => absurd (hw.symm.trans q) (by decide)) (fun q => absurd (hw.symm.trans q) (by decide)) (fun q => absurd (hw.symm.trans q) (by decide)) (fun q => absurd (hw.symm.trans q) (by decide)) (fun q => absurd (hw.symm.trans q) (by decide)) (fun q => absurd (hw.symm.trans q) (by decide)) (fun q => absurd (hw.symm.trans q) (by decide)) (fun q => absurd (hw.symm.trans q) (by decide)) (fun q => absurd (hw.symm.trans q) (by decide)) (fun q => absurd (hw.symm.trans q) (by decide)) (fun q => absurd (hw.symm.trans q) (by decide)) (fun q => absurd (hw.symm.trans q) (by decide)) (fun q => absurd (hw.symm.trans q) (by decide)) (fun q => absurd (hw.symm.trans q) (by decide)) (fun q => absurd (hw.symm.trans q) (by decide)) (fun q => absurd (hw.symm.trans q) (by decide)) (fun q => absurd (hw.symm.trans q) (by decide)) (fun q => absurd (hw.symm.trans q) (by decide)) (fun q => absurd (hw.symm.trans q) (by decide)) (fun q => absurd (hw.symm.trans q) (by decide)) (fun q => absurd (hw.symm.trans q) (by decide)) (fun q => absurd (hw.symm.trans q) (by decide)) (fun q => absurd (hw.symm.trans q) (by decide)) (fun q => absurd (hw.symm.trans q) (by decide)) (fun q => absurd (hw.symm.trans q) (by decide)) (fun q => absurd (hw.symm.trans q) (by decide)) (fun q => absurd (hw.symm.trans q) (by decide)) (fun q => absurd (hw.symm.trans q) (by decide)) (fun q => absurd (hw.symm.trans q) (by decide)) (fun q => absurd (hw.symm.trans q) (by decide)) (fun q => absurd (hw.symm.trans q) (by decide)) (fun q => absurd (hw.symm.trans q) (by decide)) (fun _ => k) (fun q => absurd (hw.symm.trans q) (by decide)) (fun q => absurd (hw.symm.trans q) (by decide)) (fun q => absurd (show 0 ≤ p_and (I 0 i.toNat) 63 ∧ p_and (I 0 i.toNat) 63 ≤ 36 by rw [hw]; decide) q)
theorem sl_35 {r : PO × PM} (hi : 0 ≤ i ∧ i < (L : Int)) (hw : p_and (I 0 i.toNat) 63 = 35) (k : Ev 62 mL_law (2403, lwL L i, [], (I, S)) r) : Ev 62 mL_law (33, lwL L i, [], (I, S)) r :=
  b5_L_law_33 hi (fun q => absurd (hw.symm.trans q) (by decide)) (fun q => absurd (hw.symm.trans q) (by decide)) (fun q => absurd (hw.symm.trans q) (by decide)) (fun q => absurd (hw.symm.trans q) (by decide)) (fun q => absurd (hw.symm.trans q) (by decide)) (fun q => absurd (hw.symm.trans q) (by decide)) (fun q => absurd (hw.symm.trans q) (by decide)) (fun q => absurd (hw.symm.trans q) (by decide)) (fun q => absurd (hw.symm.trans q) (by decide)) (fun q => absurd (hw.symm.trans q) (by decide)) (fun q => absurd (hw.symm.trans q) (by decide)) (fun q => absurd (hw.symm.trans q) (by decide)) (fun q => absurd (hw.symm.trans q) (by decide)) (fun q => absurd (hw.symm.trans q) (by decide)) (fun q => absurd (hw.symm.trans q) (by decide)) (fun q => absurd (hw.symm.trans q) (by decide)) (fun q => absurd (hw.symm.trans q) (by decide)) (fun q => absurd (hw.symm.trans q) (by decide)) (fun q => absurd (hw.symm.trans q) (by decide)) (fun q => absurd (hw.symm.trans q) (by decide)) (fun q => absurd (hw.symm.trans q) (by decide)) (fun q => absurd (hw.symm.trans q) (by decide)) (fun q => absurd (hw.symm.trans q) (by decide)) (fun q => absurd (hw.symm.trans q) (by decide)) (fun q => absurd (hw.symm.trans q) (by decide)) (fun q => absurd (hw.symm.trans q) (by decide)) (fun q => absurd (hw.symm.trans q) (by decide)) (fun q => absurd (hw.symm.trans q) (by decide)) (fun q => absurd (hw.symm.trans q) (by decide)) (fun q => absurd (hw.symm.trans q) (by decide)) (fun q => absurd (hw.symm.trans q) (by decide)) (fun q => absurd (hw.symm.trans q) (by decide)) (fun q => absurd (hw.symm.trans q) (by decide)) (fun q => absurd (hw.symm.trans q) (by decide)) (fun q => absurd (hw.symm.trans q) (by decide)) (fun _ => k) (fun q => absurd (hw.symm.trans q) (by decide)) (fun q => absurd (show 0 ≤ p_and (I 0 i.toNat) 63 ∧ p_and (I 0 i.toNat) 63 ≤ 36 by rw [hw]; decide) q)
theorem sl_36 {r : PO × PM} (hi : 0 ≤ i ∧ i < (L : Int)) (hw : p_and (I 0 i.toNat) 63 = 36) (k : Ev 62 mL_law (2414, lwL L i, [], (I, S)) r) : Ev 62 mL_law (33, lwL L i, [], (I, S)) r :=
  b5_L_law_33 hi (fun q => absurd (hw.symm.trans q) (by decide)) (fun q => absurd (hw.symm.trans q) (by decide)) (fun q => absurd (hw.symm.trans q) (by decide)) (fun q => absurd (hw.symm.trans q) (by decide)) (fun q => absurd (hw.symm.trans q) (by decide)) (fun q => absurd (hw.symm.trans q) (by decide)) (fun q => absurd (hw.symm.trans q) (by decide)) (fun q => absurd (hw.symm.trans q) (by decide)) (fun q => absurd (hw.symm.trans q) (by decide)) (fun q => absurd (hw.symm.trans q) (by decide)) (fun q => absurd (hw.symm.trans q) (by decide)) (fun q => absurd (hw.symm.trans q) (by decide)) (fun q => absurd (hw.symm.trans q) (by decide)) (fun q => absurd (hw.symm.trans q) (by decide)) (fun q => absurd (hw.symm.trans q) (by decide)) (fun q => absurd (hw.symm.trans q) (by decide)) (fun q => absurd (hw.symm.trans q) (by decide)) (fun q => absurd (hw.symm.trans q) (by decide)) (fun q => absurd (hw.symm.trans q) (by decide)) (fun q => absurd (hw.symm.trans q) (by decide)) (fun q => absurd (hw.symm.trans q) (by decide)) (fun q => absurd (hw.symm.trans q) (by decide)) (fun q => absurd (hw.symm.trans q) (by decide)) (fun q => absurd (hw.symm.trans q) (by decide)) (fun q => absurd (hw.symm.trans q) (by decide)) (fun q => absurd (hw.symm.trans q) (by decide)) (fun q => absurd (hw.symm.trans q) (by decide)) (fun q => absurd (hw.symm.trans q) (by decide)) (fun q => absurd (hw.symm.trans q) (by decide)) (fun q => absurd (hw.symm.trans q) (by decide)) (fun q => absurd (hw.symm.trans q) (by decide)) (fun q => absurd (hw.symm.trans q) (by decide)) (fun q => absurd (hw.symm.trans q) (by decide)) (fun q => absurd (hw.symm.trans q) (by decide)) (fun q => absurd (hw.symm.trans q) (by decide)) (fun q => absurd (hw.symm.trans q) (by decide)) (fun _ => k) (fun q => absurd (show 0 ≤ p_and (I 0 i.toNat) 63 ∧ p_and (I 0 i.toNat) 63 ≤ 36 by rw [hw]; decide) q)
theorem rd_33 (hi : 0 ≤ i ∧ i + 6 ≤ (L : Int)) (hL : L ≤ 3072) (hcc : c ≤ 900) (hx : IVx c I S) : rdQ5 L c i 33 I S := by
  have hi2 : 0 ≤ i ∧ i < (L : Int) := by omega
  by_cases w0 : p_and (I 0 i.toNat) 63 = 0
  · obtain ⟨K, S', k1, k2⟩ := rd_feed hi hL hcc hx
    exact ⟨K, S', k1, fun r k => sl_0 hi2 w0 (k2 r k)⟩
  by_cases w1 : p_and (I 0 i.toNat) 63 = 1
  · obtain ⟨K, S', k1, k2⟩ := rd_atlas hi hL hcc hx
    exact ⟨K, S', k1, fun r k => sl_1 hi2 w1 (k2 r k)⟩
  by_cases w2 : p_and (I 0 i.toNat) 63 = 2
  · obtain ⟨K, S', k1, k2⟩ := rd_fault hi hL hcc hx
    exact ⟨K, S', k1, fun r k => sl_2 hi2 w2 (k2 r k)⟩
  by_cases w3 : p_and (I 0 i.toNat) 63 = 3
  · obtain ⟨K, S', k1, k2⟩ := rd_count hi hL hcc hx
    exact ⟨K, S', k1, fun r k => sl_3 hi2 w3 (k2 r k)⟩
  by_cases w4 : p_and (I 0 i.toNat) 63 = 4
  · obtain ⟨K, S', k1, k2⟩ := rd_piece hi hL hcc hx
    exact ⟨K, S', k1, fun r k => sl_4 hi2 w4 (k2 r k)⟩
  by_cases w5 : p_and (I 0 i.toNat) 63 = 5
  · obtain ⟨K, S', k1, k2⟩ := rd_vertex hi hL hcc hx
    exact ⟨K, S', k1, fun r k => sl_5 hi2 w5 (k2 r k)⟩
  by_cases w6 : p_and (I 0 i.toNat) 63 = 6
  · obtain ⟨K, S', k1, k2⟩ := rd_colour hi hL hcc hx
    exact ⟨K, S', k1, fun r k => sl_6 hi2 w6 (k2 r k)⟩
  by_cases w7 : p_and (I 0 i.toNat) 63 = 7
  · obtain ⟨K, S', k1, k2⟩ := rd_named hi hL hcc hx
    exact ⟨K, S', k1, fun r k => sl_7 hi2 w7 (k2 r k)⟩
  by_cases w8 : p_and (I 0 i.toNat) 63 = 8
  · obtain ⟨K, S', k1, k2⟩ := rd_level hi hL hcc hx
    exact ⟨K, S', k1, fun r k => sl_8 hi2 w8 (k2 r k)⟩
  by_cases w9 : p_and (I 0 i.toNat) 63 = 9
  · obtain ⟨K, S', k1, k2⟩ := rd_extend hi hL hcc hx
    exact ⟨K, S', k1, fun r k => sl_9 hi2 w9 (k2 r k)⟩
  by_cases w10 : p_and (I 0 i.toNat) 63 = 10
  · obtain ⟨K, S', k1, k2⟩ := rd_runs hi hL hcc hx
    exact ⟨K, S', k1, fun r k => sl_10 hi2 w10 (k2 r k)⟩
  by_cases w11 : p_and (I 0 i.toNat) 63 = 11
  · obtain ⟨K, S', k1, k2⟩ := rd_switched hi hL hcc hx
    exact ⟨K, S', k1, fun r k => sl_11 hi2 w11 (k2 r k)⟩
  by_cases w12 : p_and (I 0 i.toNat) 63 = 12
  · obtain ⟨K, S', k1, k2⟩ := rd_set hi hL hcc hx
    exact ⟨K, S', k1, fun r k => sl_12 hi2 w12 (k2 r k)⟩
  by_cases w13 : p_and (I 0 i.toNat) 63 = 13
  · obtain ⟨K, S', k1, k2⟩ := rd_sends hi hL hcc hx
    exact ⟨K, S', k1, fun r k => sl_13 hi2 w13 (k2 r k)⟩
  by_cases w14 : p_and (I 0 i.toNat) 63 = 14
  · obtain ⟨K, S', k1, k2⟩ := rd_hub hi hL hcc hx
    exact ⟨K, S', k1, fun r k => sl_14 hi2 w14 (k2 r k)⟩
  by_cases w15 : p_and (I 0 i.toNat) 63 = 15
  · obtain ⟨K, S', k1, k2⟩ := rd_cases hi hL hcc hx
    exact ⟨K, S', k1, fun r k => sl_15 hi2 w15 (k2 r k)⟩
  by_cases w16 : p_and (I 0 i.toNat) 63 = 16
  · obtain ⟨K, S', k1, k2⟩ := rd_spot hi hL hcc hx
    exact ⟨K, S', k1, fun r k => sl_16 hi2 w16 (k2 r k)⟩
  by_cases w17 : p_and (I 0 i.toNat) 63 = 17
  · obtain ⟨K, S', k1, k2⟩ := rd_scaled hi hL hcc hx
    exact ⟨K, S', k1, fun r k => sl_17 hi2 w17 (k2 r k)⟩
  by_cases w18 : p_and (I 0 i.toNat) 63 = 18
  · obtain ⟨K, S', k1, k2⟩ := rd_rule hi hL hcc hx
    exact ⟨K, S', k1, fun r k => sl_18 hi2 w18 (k2 r k)⟩
  by_cases w19 : p_and (I 0 i.toNat) 63 = 19
  · obtain ⟨K, S', k1, k2⟩ := rd_paint hi hL hcc hx
    exact ⟨K, S', k1, fun r k => sl_19 hi2 w19 (k2 r k)⟩
  by_cases w20 : p_and (I 0 i.toNat) 63 = 20
  · obtain ⟨K, S', k1, k2⟩ := rd_wash hi hL hcc hx
    exact ⟨K, S', k1, fun r k => sl_20 hi2 w20 (k2 r k)⟩
  by_cases w21 : p_and (I 0 i.toNat) 63 = 21
  · obtain ⟨K, S', k1, k2⟩ := rd_swap hi hL hcc hx
    exact ⟨K, S', k1, fun r k => sl_21 hi2 w21 (k2 r k)⟩
  by_cases w22 : p_and (I 0 i.toNat) 63 = 22
  · obtain ⟨K, S', k1, k2⟩ := rd_tune hi hL hcc hx
    exact ⟨K, S', k1, fun r k => sl_22 hi2 w22 (k2 r k)⟩
  by_cases w23 : p_and (I 0 i.toNat) 63 = 23
  · obtain ⟨K, S', k1, k2⟩ := rd_undo hi hL hcc hx
    exact ⟨K, S', k1, fun r k => sl_23 hi2 w23 (k2 r k)⟩
  by_cases w24 : p_and (I 0 i.toNat) 63 = 24
  · obtain ⟨K, S', k1, k2⟩ := rd_chain hi hL hcc hx
    exact ⟨K, S', k1, fun r k => sl_24 hi2 w24 (k2 r k)⟩
  by_cases w25 : p_and (I 0 i.toNat) 63 = 25
  · obtain ⟨K, S', k1, k2⟩ := rd_solve hi hL hcc hx
    exact ⟨K, S', k1, fun r k => sl_25 hi2 w25 (k2 r k)⟩
  by_cases w26 : p_and (I 0 i.toNat) 63 = 26
  · obtain ⟨K, S', k1, k2⟩ := rd_ways hi hL hcc hx
    exact ⟨K, S', k1, fun r k => sl_26 hi2 w26 (k2 r k)⟩
  by_cases w27 : p_and (I 0 i.toNat) 63 = 27
  · obtain ⟨K, S', k1, k2⟩ := rd_free hi hL hcc hx
    exact ⟨K, S', k1, fun r k => sl_27 hi2 w27 (k2 r k)⟩
  by_cases w28 : p_and (I 0 i.toNat) 63 = 28
  · obtain ⟨K, S', k1, k2⟩ := rd_play hi hL hcc hx
    exact ⟨K, S', k1, fun r k => sl_28 hi2 w28 (k2 r k)⟩
  by_cases w29 : p_and (I 0 i.toNat) 63 = 29
  · obtain ⟨K, S', k1, k2⟩ := rd_plan hi hL hcc hx
    exact ⟨K, S', k1, fun r k => sl_29 hi2 w29 (k2 r k)⟩
  by_cases w30 : p_and (I 0 i.toNat) 63 = 30
  · obtain ⟨K, S', k1, k2⟩ := rd_planned hi hL hcc hx
    exact ⟨K, S', k1, fun r k => sl_30 hi2 w30 (k2 r k)⟩
  by_cases w31 : p_and (I 0 i.toNat) 63 = 31
  · obtain ⟨K, S', k1, k2⟩ := rd_note hi hL hcc hx
    exact ⟨K, S', k1, fun r k => sl_31 hi2 w31 (k2 r k)⟩
  by_cases w32 : p_and (I 0 i.toNat) 63 = 32
  · obtain ⟨K, S', k1, k2⟩ := rd_forget hi hL hcc hx
    exact ⟨K, S', k1, fun r k => sl_32 hi2 w32 (k2 r k)⟩
  by_cases w33 : p_and (I 0 i.toNat) 63 = 33
  · obtain ⟨K, S', k1, k2⟩ := rd_meant hi hL hcc hx
    exact ⟨K, S', k1, fun r k => sl_33 hi2 w33 (k2 r k)⟩
  by_cases w34 : p_and (I 0 i.toNat) 63 = 34
  · obtain ⟨K, S', k1, k2⟩ := rd_years hi hL hcc hx
    exact ⟨K, S', k1, fun r k => sl_34 hi2 w34 (k2 r k)⟩
  by_cases w35 : p_and (I 0 i.toNat) 63 = 35
  · obtain ⟨K, S', k1, k2⟩ := rd_image hi hL hcc hx
    exact ⟨K, S', k1, fun r k => sl_35 hi2 w35 (k2 r k)⟩
  by_cases w36 : p_and (I 0 i.toNat) 63 = 36
  · obtain ⟨K, S', k1, k2⟩ := rd_restore hi hL hcc hx
    exact ⟨K, S', k1, fun r k => sl_36 hi2 w36 (k2 r k)⟩
  obtain ⟨T, U, n, P, R, N, h⟩ := hx
  refine ⟨I, S, ⟨T, U, n, P, R, N, IV_c h (Nat.le_succ c)⟩, fun r k => ?_⟩
  exact b5_L_law_33 hi2 (fun q => absurd q w0) (fun q => absurd q w1) (fun q => absurd q w2) (fun q => absurd q w3) (fun q => absurd q w4) (fun q => absurd q w5) (fun q => absurd q w6) (fun q => absurd q w7) (fun q => absurd q w8) (fun q => absurd q w9) (fun q => absurd q w10) (fun q => absurd q w11) (fun q => absurd q w12) (fun q => absurd q w13) (fun q => absurd q w14) (fun q => absurd q w15) (fun q => absurd q w16) (fun q => absurd q w17) (fun q => absurd q w18) (fun q => absurd q w19) (fun q => absurd q w20) (fun q => absurd q w21) (fun q => absurd q w22) (fun q => absurd q w23) (fun q => absurd q w24) (fun q => absurd q w25) (fun q => absurd q w26) (fun q => absurd q w27) (fun q => absurd q w28) (fun q => absurd q w29) (fun q => absurd q w30) (fun q => absurd q w31) (fun q => absurd q w32) (fun q => absurd q w33) (fun q => absurd q w34) (fun q => absurd q w35) (fun q => absurd q w36) (fun _ => k)
end
end
