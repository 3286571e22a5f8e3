/-! ===== the game, both sides ===== -/
noncomputable section
section
variable {d : Nat} {I J K X Y Z : Nat → Nat → Int} {S S' : PS} {c T U n P R N p r s m : Nat} {o : Nat → Nat} {g : Nat → Int} {adj : Nat → Nat → Bool}
theorem op_cnt (h : opR o m n 0 0 g) : (m : Int) = (n : Int) - ctG g n := by
  obtain ⟨_, h2, h3, h4⟩ := h
  have go : ∀ j : Nat, j ≤ n → ∃ e : Nat, e ≤ m ∧ (e : Int) = (j : Int) - ctG g j ∧ (∀ k, k < e → o k < j) ∧ ∀ k, e ≤ k → k < m → j ≤ o k := by
    intro j
    induction j with
    | zero => exact fun _ => ⟨0, by omega, by show (0 : Int) = 0 - 0; rfl, fun k hk => absurd hk (by omega), fun k _ _ => by omega⟩
    | succ j ih =>
      intro hj
      obtain ⟨e, e1, e2, e3, e4⟩ := ih (by omega)
      have hct : ctG g (j + 1) = ctG g j + (if g j ≠ -1 then 1 else 0) := rfl
      by_cases q : g j = -1
      · rw [if_neg (fun w => w q)] at hct
        obtain ⟨k, _, k2, k3⟩ := h4 j (by omega) (by omega) q
        have hke : k = e := by
          by_cases a : k < e
          · have := e3 k a; omega
          · by_cases b : k = e
            · exact b
            · have h5 := h3 e k (by omega) k2
              have h6 := e4 e (by omega) (by omega)
              omega
        subst hke
        refine ⟨k + 1, by omega, by omega, fun i hi => ?_, fun i hi him => ?_⟩
        · by_cases b : i = k
          · rw [b, k3]; omega
          · have := e3 i (by omega); omega
        · have := h3 k i (by omega) him
          omega
      · rw [if_pos q] at hct
        refine ⟨e, e1, by omega, fun i hi => by have := e3 i hi; omega, fun i hi him => ?_⟩
        have h5 := e4 i hi him
        have h6 := (h2 i (by omega) him).2.2
        by_cases b : o i = j
        · rw [b] at h6; exact absurd h6 q
        · omega
  obtain ⟨e, e1, e2, _, e4⟩ := go n (Nat.le_refl n)
  by_cases q : e = m
  · rw [← q]; exact e2
  · have h5 := e4 e (by omega) (by omega)
    have h6 := (h2 e (by omega) (by omega)).2.1
    omega
theorem fgI_0 : ∀ k, fgI 0 k = 0
  | 0 => rfl
  | k + 1 => by show fgI 0 k / 5 = 0; rw [fgI_0 k]; rfl
theorem gmN_0 : ∀ k, gmN 0 k = 0
  | 0 => rfl
  | k + 1 => by
    show gmN 0 k + (if 0 < fgI 0 k % 5 then 1 else 0) = 0
    rw [fgI_0, gmN_0 k, if_neg (by decide)]
    rfl
theorem gmG_0 (hop : ∀ k, k < m → g (o k) = -1) : ∀ k, k ≤ m → gmG g o 0 k = g
  | 0, _ => rfl
  | k + 1, hk => by
    show up1 (gmG g o 0 k) (o k) (fgI 0 k % 5 - 1) = g
    rw [gmG_0 hop k (by omega), fgI_0]
    funext i
    by_cases e : i = o k
    · rw [e, up1_same, hop k (by omega)]; rfl
    · rw [up1_o _ e]
/-- what a game comes to -/
def pyV (adj : Nat → Nat → Bool) (n u : Nat) (g : Nat → Int) (x : Int) : Int := if 4 < u then -1 else if x = 0 then (if wnS adj n u g true = true then 1 else 2) else if u = 0 then -1 else if wnS adj n u g true = true then mvO (wnF adj n (u - 1) g) else -1
theorem py_M {x1 : Int} (hl0 : LyX12 S) (hA : mAd Y n adj) (hok : rOk (gR Y 0) n) (hx : 0 ≤ x1 ∧ x1 ≤ 1) : ∃ (u : Nat) (K : Nat → Nat → Int), (u : Int) = (n : Int) - ctG (gR Y 0) n ∧ Ca (d + 5) mX12_play [vR (some (22, 0, 156)), vI x1] (Y, S) (.inl (some (vI (pyV adj n u (gR Y 0) x1)))) (K, S) ∧ (∀ a, a ≠ 178 → a ≠ 180 → a ≠ 183 → a ≠ 156 → K a = Y a) ∧ (∀ k, k ≠ 0 → k ≠ 44 → K 156 k = Y 156 k) ∧ K 156 0 = 0 ∧ ∀ i, i < 18 → K 178 i = Y 178 i := by
  obtain ⟨I, hI⟩ : ∃ I, I = up2 Y 156 0 0 := ⟨_, rfl⟩
  have io : ∀ a, a ≠ 156 → I a = Y a := fun a ha => by rw [hI]; exact funext (fun j => up2_a _ ha)
  have ik : ∀ k, k ≠ 0 → I 156 k = Y 156 k := fun k hk => by rw [hI, up2_k _ hk]
  have i0 : I 156 0 = 0 := by rw [hI, up2_same]
  have hA1 : mAd I n adj := mAd_of hA (ik 15 (by decide)) (io 161 (by decide))
  have egr : gR I 0 = gR Y 0 := by funext i; unfold gR; rw [io 178 (by decide)]
  obtain ⟨g, hg⟩ : ∃ g, g = gR Y 0 := ⟨_, rfl⟩
  rw [← hg] at egr hok ⊢
  obtain ⟨m, o, hO, hR, h44, hA2, hgr, hr, ha, h156⟩ := lo_facts hA1 (by rw [egr]; exact hok)
  rw [egr] at hR hgr
  have h15 := hA.1
  have hn := hA.2.1
  have v1 : 0 ≤ Y 156 15 ∧ Y 156 15 ≤ 12 := by omega
  have hcnt := op_cnt hR
  have hfr : ∀ a, a ≠ 178 → a ≠ 180 → a ≠ 156 → loI I a = Y a := fun a h1 h2 h3 => by rw [ha a h1 h2 h3, io a h3]
  by_cases h4 : 4 < m
  · refine ⟨m, loI I, hcnt, w_X12_play_0 (J1 := I) hl0 (fun _ q => absurd q (by rw [← hI]; omega)) (fun _ q => absurd q (by rw [← hI]; omega)) (fun _ q => absurd q (by rw [← hI]; omega)) (e1 := fun _ q => absurd q (by rw [← hI]; omega)) (r2 := fun _ _ => ?_) (e2 := fun _ _ => by rw [← hI]) (r3 := fun q => absurd hx q) (e3 := fun q => absurd hx q) (v1 := fun _ => v1), fun a h1 h2 h3 h4 => hfr a h1 h2 h4, fun k h1 h2 => by rw [h156 k h2, ik k h1], by rw [h156 0 (by decide), i0], fun i hi => by rw [hr i hi, io 178 (by decide)]⟩
    unfold pyV
    rw [if_pos h4]
  have hop : ∀ k, k < m → g (o k) = -1 := fun k hk => (hR.2.1 k (by omega) hk).2.2
  have hon : ∀ k, k < m → o k < n := fun k hk => (hR.2.1 k (by omega) hk).2.1
  have hinc := hR.2.2.1
  have hall : ∀ i, i < n → g i = -1 → ∃ k, k < m ∧ o k = i := fun i hi hq => by
    obtain ⟨k, _, k2, k3⟩ := hR.2.2.2 i (by omega) hi hq
    exact ⟨k, k2, k3⟩
  obtain ⟨J, j1, ⟨j2, j3⟩, j4, j5⟩ := gm_M (d := d) hl0 hA2 hO (by omega) (fun i hi => hgr i (by omega)) hok hop hall
  have hpw := pw5 (k := m) (by omega)
  have e0 : J 183 0 = if wnS adj n m g true = true then 1 else 2 := by
    have := j5 0 (Int.le_refl 0) (by omega)
    rw [show (0 : Int).toNat = 0 from rfl] at this
    rw [this]
    unfold gmV gmW
    rw [gmN_0, gmG_0 hop m (Nat.le_refl m), show ((m : Int) - 0).toNat = m by omega]
    rfl
  have jf : ∀ a, a ≠ 178 → a ≠ 180 → a ≠ 183 → a ≠ 156 → J a = Y a := fun a h1 h2 h3 h5 => by rw [j2 a h1 h3, hfr a h1 h2 h5]
  have jk : ∀ k, k ≠ 0 → k ≠ 44 → J 156 k = Y 156 k := fun k h1 h2 => by rw [j2 156 (by decide) (by decide), h156 k h2, ik k h1]
  have jz : J 156 0 = 0 := by rw [j2 156 (by decide) (by decide), h156 0 (by decide), i0]
  have jr : ∀ i, i < 18 → J 178 i = Y 178 i := fun i hi => by rw [j3 i hi, hr i hi, io 178 (by decide)]
  by_cases hx0 : x1 = 0
  · refine ⟨m, J, hcnt, w_X12_play_0 (J1 := J) hl0 (fun _ _ => by rw [← hI]; exact j1) (fun _ _ q => absurd hx0 q) (fun _ _ _ => ?_) (e1 := fun _ _ _ => rfl) (r2 := fun _ q => absurd q (by rw [← hI]; omega)) (e2 := fun _ q => absurd q (by rw [← hI]; omega)) (r3 := fun q => absurd hx q) (e3 := fun q => absurd hx q) (v1 := fun _ => v1), jf, jk, jz, jr⟩
    unfold pyV
    rw [if_neg h4, if_pos hx0, e0]
  obtain ⟨X, hX⟩ : ∃ X, X = trI J := ⟨_, rfl⟩
  have xo : ∀ a, a ≠ 178 → X a = J a := fun a h1 => by rw [hX]; exact trI_o J h1
  have xl : ∀ i, i < 18 → X 178 i = J 178 i := fun i hi => by rw [hX]; exact trI_lo J i hi
  have xh : ∀ i, i < n → gR X 18 i = g i := fun i hi => by
    unfold gR
    rw [show ((18 : Int) + (i : Int)).toNat = 18 + i by omega, hX, trI_hi J i (by omega), jr i (by omega), hg]
    unfold gR
    rw [show ((0 : Int) + (i : Int)).toNat = i by omega]
  have hAX : mAd X n adj := mAd_of hA (by rw [xo 156 (by decide)]; exact jk 15 (by decide) (by decide)) (by rw [xo 161 (by decide)]; exact jf 161 (by decide) (by decide) (by decide) (by decide))
  have hokX : rOk (gR X 18) n := fun i hi => by rw [xh i hi]; exact hok i hi
  have x44 : X 156 44 = (m : Int) := by rw [xo 156 (by decide), j2 156 (by decide) (by decide)]; exact h44
  have x183 : X 183 = J 183 := xo 183 (by decide)
  have x180 : ∀ k, k < m → X 180 k = (o k : Int) := fun k hk => by rw [xo 180 (by decide), j2 180 (by decide) (by decide)]; exact (hO.2.2.1 k hk).1
  have loop : L_X12_play_51 d 156 x1 0 X S (pyV adj n m g x1) (X, S) := by
    by_cases hW : wnS adj n m g true = true
    · rw [if_pos hW] at e0
      by_cases hm0 : m = 0
      · refine w_X12_play_51 hl0 (fun q => absurd q (by omega)) (fun _ => ?_) (e1 := fun _ => rfl) (r2 := fun q => absurd q (by omega)) (e2 := fun q => absurd q (by omega))
        unfold pyV
        rw [if_neg h4, if_neg hx0, if_pos hm0]
      obtain ⟨F, hF⟩ : ∃ F : Nat → Bool, F = fun m' => canP adj g n m' && wnS adj n (m - 1) (up1 g (m' / 4) ((m' % 4 : Nat) : Int)) false := ⟨_, rfl⟩
      have hV : pyV adj n m g x1 = mvO (fstB F (4 * n)) := by
        unfold pyV wnF
        rw [if_neg h4, if_neg hx0, if_neg hm0, if_pos hW, hF]
      have hFd : ∀ k cc, k < m → cc < 4 → (F (4 * o k + cc) = true ↔ (g (o k) = -1 ∧ frP adj g n (o k) (cc : Int) = true) ∧ J 183 (((cc : Int) + 1) * pwI 5 k).toNat = 1) := fun k cc hk hc => by
        have hz : fgI 0 k % 5 = 0 := by rw [fgI_0]; rfl
        have bd := fg_bd (x := 0) (m := m) (by omega) (by omega) hk hc hz
        have st := gmG_step (g := g) (x := 0) (Int.le_refl 0) hinc (by omega) hk hc hz
        rw [Int.zero_add] at bd st
        rw [gmN_0, gmG_0 hop m (Nat.le_refl m)] at st
        have hw := j5 (((cc : Int) + 1) * pwI 5 k) bd.1 bd.2.1
        rw [hw]
        unfold gmV gmW
        rw [st.2, show ((m : Int) - (0 + 1)).toNat = m - 1 by omega, wnS_congr adj n (m - 1) _ _ _ (fun i _ => st.1 i), hF]
        have e1 : (decide ((0 + 1 : Int) % 2 = 0)) = false := by decide
        rw [e1]
        dsimp only
        unfold canP
        rw [(dm4 (o k) cc hc).1, (dm4 (o k) cc hc).2, Bool.and_eq_true, Bool.and_eq_true, decide_eq_true_iff]
        refine and_congr Iff.rfl ?_
        cases wnS adj n (m - 1) (up1 g (o k) (cc : Int)) false <;> simp
      have hFo : ∀ j, j < 4 * n → (∀ k, k < m → j / 4 ≠ o k) → F j = false := fun j hj hno => by
        rw [hF]
        dsimp only
        unfold canP
        have : g (j / 4) ≠ -1 := fun q => by
          obtain ⟨k, k1, k2⟩ := hall (j / 4) (by omega) q
          exact hno k k1 k2.symm
        rw [decide_eq_false this, Bool.false_and, Bool.false_and]
      have outer : ∀ (t dd : Nat), dd + t = m → (∀ j, j < 4 * n → (∀ k, dd ≤ k → k < m → j / 4 ≠ o k) → F j = false) → L_X12_play_51 d 156 x1 (dd : Int) X S (pyV adj n m g x1) (X, S) := by
        intro t
        induction t with
        | zero =>
          intro dd hdd hi
          have hnone : ∀ j, j < 4 * n → F j = false := fun j hj => hi j hj (fun k h1 h2 => by omega)
          exfalso
          obtain ⟨u, hu⟩ : ∃ u, m = u + 1 := ⟨m - 1, by omega⟩
          rw [hu] at hW
          obtain ⟨j, hj, hj2⟩ := anyB_iff.mp hW
          have := hnone j hj
          rw [hF, show m - 1 = u by omega] at this
          have hj2 : (canP adj g n j && wnS adj n u (up1 g (j / 4) ((j % 4 : Nat) : Int)) false) = true := hj2
          have this : (canP adj g n j && wnS adj n u (up1 g (j / 4) ((j % 4 : Nat) : Int)) false) = false := this
          rw [hj2] at this
          cases this
        | succ t ih =>
          intro dd hdd hi
          have hk : dd < m := by omega
          have hod := hon dd hk
          refine w_X12_play_51 hl0 (fun _ _ => ?_) (fun q => absurd q (by omega)) (e1 := fun q => absurd q (by omega)) (r2 := fun _ q => absurd (by rw [x183]; exact e0) q) (e2 := fun _ q => absurd (by rw [x183]; exact e0) q)
          have inner : ∀ (q cc : Nat), cc + q = 4 → (∀ c', c' < cc → F (4 * o dd + c') = false) → L_X12_play_71 d 156 x1 (dd : Int) (cc : Int) X S (pyV adj n m g x1) (X, S) := by
            intro q
            induction q with
            | zero =>
              intro cc hq hc
              refine w_X12_play_71 hl0 (fun _ => ?_) (fun q => absurd q (by omega)) (fun q => absurd q (by omega)) (fun q => absurd q (by omega)) (e1 := fun q => absurd q (by omega)) (v1 := fun _ => by omega) (v2 := fun q => absurd q (by omega)) (v3 := fun q => absurd q (by omega)) (v4 := fun q => absurd q (by omega)) (v5 := fun q => absurd q (by omega)) (v6 := fun q => absurd q (by omega)) (v7 := fun q => absurd q (by omega)) (v8 := fun q => absurd q (by omega)) (v9 := fun q => absurd q (by omega)) (v10 := fun q => absurd q (by omega)) (v11 := fun q => absurd q (by omega)) (v12 := fun q => absurd q (by omega)) (v13 := fun q => absurd q (by omega)) (v14 := fun q => absurd q (by omega)) (v15 := fun q => absurd q (by omega))
              refine ih (dd + 1) (by omega) (fun j hj hno => ?_)
              by_cases e : j / 4 = o dd
              · rw [show j = 4 * o dd + j % 4 by omega]
                exact hc (j % 4) (by omega)
              · exact hi j hj (fun k h1 h2 => by
                  by_cases e2 : k = dd
                  · rw [e2]; exact e
                  · exact hno k (by omega) h2)
            | succ q ihq =>
              intro cc hq hc
              have hc4 : cc < 4 := by omega
              have e180 : X 180 (dd : Int).toNat = (o dd : Int) := by rw [Int.toNat_natCast]; exact x180 dd hk
              have hdeg := mAd_deg hAX hod
              have hnb := fun k hk => mAd_nb hAX hod (k := k) hk
              have hcond := cp_M hAX hokX hod (c := (cc : Int))
              have hfd := hFd dd cc hk hc4
              have hbd := fg_bd (x := 0) (m := m) (by omega) (by omega) hk hc4 (by rw [fgI_0]; rfl)
              rw [Int.zero_add] at hbd
              have hgo : gR X 18 (o dd) = g (o dd) := xh (o dd) hod
              have hfr : frP adj (gR X 18) n (o dd) (cc : Int) = frP adj g n (o dd) (cc : Int) := frP_congr (fun i hi => xh i hi)
              rw [hgo, hfr] at hcond
              obtain ⟨y, hy⟩ : ∃ y, y = ((cc : Int) + 1) * pwI 5 dd := ⟨_, rfl⟩
              have hyb : 0 ≤ y ∧ y < pwI 5 m := by rw [hy]; exact ⟨hbd.1, hbd.2.1⟩
              have hnx : F (4 * o dd + cc) = false → L_X12_play_71 d 156 x1 (dd : Int) ((cc : Int) + 1) X S (pyV adj n m g x1) (X, S) := fun hf => by
                have := ihq (cc + 1) (by omega) (fun c' hc' => by
                  by_cases e : c' = cc
                  · rw [e]; exact hf
                  · exact hc c' (by omega))
                rw [show ((cc + 1 : Nat) : Int) = (cc : Int) + 1 by omega] at this
                exact this
              refine w_X12_play_71 hl0 (fun q => absurd q (by omega)) (fun _ w => ?_) (fun _ w1 w2 => ?_) (fun _ w1 w2 => ?_) (e1 := fun _ _ _ => rfl) (v1 := fun q => absurd q (by omega)) (v2 := fun _ => by omega) (v3 := fun _ => by rw [e180]; omega) (v4 := fun _ => by rw [e180]; omega) (v5 := fun _ _ _ => Or.inr rfl) (v6 := fun _ _ _ => by rw [e180]; omega) (v7 := fun _ _ _ => by rw [e180]; omega) (v8 := fun _ _ _ k hk => by rw [e180] at hk ⊢; have := hnb k hk; omega) (v9 := fun _ _ => by omega) (v10 := fun _ _ => by omega) (v11 := fun _ _ => by omega) (v12 := fun _ _ => by rw [Int.toNat_natCast, ← hy]; omega) (v13 := fun _ _ => by rw [Int.toNat_natCast, ← hy]; omega) (v14 := fun _ _ _ => by rw [e180]; omega) (v15 := fun _ _ _ => by rw [e180]; omega)
              · refine hnx (Bool.eq_false_iff.mpr (fun hf => w ?_))
                rw [e180]
                exact hcond.mpr ⟨(hfd.mp hf).1.1, by omega, (hfd.mp hf).1.2⟩
              · refine hnx (Bool.eq_false_iff.mpr (fun hf => w2 ?_))
                rw [x183, Int.toNat_natCast]
                exact (hfd.mp hf).2
              · rw [e180] at w1
                rw [x183, Int.toNat_natCast] at w2
                have w3 := hcond.mp w1
                have hf : F (4 * o dd + cc) = true := hfd.mpr ⟨⟨w3.1, w3.2.2⟩, w2⟩
                have hu := fstB_uniq (n := 4 * n) (show 4 * o dd + cc < 4 * n by omega) hf (fun j hj => by
                  by_cases e : j / 4 = o dd
                  · rw [show j = 4 * o dd + j % 4 by omega]
                    exact hc (j % 4) (by omega)
                  · refine hi j (by omega) (fun k h1 h2 => ?_)
                    by_cases e2 : k = dd
                    · rw [e2]; exact e
                    · have := hinc dd k (by omega) h2
                      omega)
                rw [hV, hu, e180]
                unfold mvO
                omega
          have := inner 4 0 rfl (fun c' h => absurd h (by omega))
          exact this
      exact outer m 0 (by omega) (fun j hj hno => hFo j hj (fun k hk => hno k (by omega) hk))
    · rw [if_neg hW] at e0
      have hVn : (-1 : Int) = pyV adj n m g x1 := by
        unfold pyV
        rw [if_neg h4, if_neg hx0, if_neg hW]
        split <;> rfl
      exact w_X12_play_51 hl0 (fun _ q => absurd q (by rw [x183, e0]; decide)) (fun _ => hVn) (e1 := fun _ => rfl) (r2 := fun _ _ => hVn) (e2 := fun _ _ => rfl)
  refine ⟨m, X, hcnt, w_X12_play_0 (J1 := J) hl0 (fun _ _ => by rw [← hI]; exact j1) (fun _ _ _ => by rw [← hX]; exact loop) (fun _ _ q => absurd q hx0) (e1 := fun _ _ q => absurd q hx0) (r2 := fun _ q => absurd q (by rw [← hI]; omega)) (e2 := fun _ q => absurd q (by rw [← hI]; omega)) (r3 := fun q => absurd hx q) (e3 := fun q => absurd hx q) (v1 := fun _ => v1), fun a h1 h2 h3 h5 => by rw [xo a h1]; exact jf a h1 h2 h3 h5, fun k h1 h2 => by rw [xo 156 (by decide)]; exact jk k h1 h2, by rw [xo 156 (by decide)]; exact jz, fun i hi => by rw [xl i hi]; exact jr i hi⟩
end
end
