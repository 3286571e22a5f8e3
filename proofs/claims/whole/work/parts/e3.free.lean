/-! ===== free, by both; C of a piece; the next row ===== -/
noncomputable section
section
variable {d : Nat} {I : Nat → Nat → Int} {S : PS}
/-- fewest swaps that free a colour; the first of them -/
def frN (adj : Nat → Nat → Bool) (n s : Nat) (g : Nat → Int) : Int := if g s ≠ -1 then -1 else if fdS adj n s 0 g = true then 0 else if fdS adj n s 1 g = true then 1 else if fdS adj n s 2 g = true then 2 else -1
def frV (adj : Nat → Nat → Bool) (n s : Nat) (g : Nat → Int) : Int := if g s ≠ -1 then -1 else if fdS adj n s 0 g = true then -1 else if fdS adj n s 1 g = true then mvO (fdF adj n s 0 g) else if fdS adj n s 2 g = true then mvO (fdF adj n s 1 g) else -1
section
variable {adj : Nat → Nat → Bool} {n s : Nat} {g : Nat → Int}
theorem fr_p (h : g s ≠ -1) : frV adj n s g = -1 ∧ frN adj n s g = -1 := by unfold frV frN; exact ⟨if_pos h, if_pos h⟩
theorem fr_0 (h : g s = -1) (h0 : fdS adj n s 0 g = true) : frV adj n s g = -1 ∧ frN adj n s g = 0 := by
  unfold frV frN
  refine ⟨?_, ?_⟩ <;> rw [if_neg (fun c => c h), h0] <;> rfl
theorem fr_1 (h : g s = -1) (h0 : fdS adj n s 0 g = false) (h1 : fdS adj n s 1 g = true) : frV adj n s g = mvO (fdF adj n s 0 g) ∧ frN adj n s g = 1 := by
  unfold frV frN
  refine ⟨?_, ?_⟩ <;> rw [if_neg (fun c => c h), h0, h1] <;> rfl
theorem fr_2 (h : g s = -1) (h0 : fdS adj n s 0 g = false) (h1 : fdS adj n s 1 g = false) (h2 : fdS adj n s 2 g = true) : frV adj n s g = mvO (fdF adj n s 1 g) ∧ frN adj n s g = 2 := by
  unfold frV frN
  refine ⟨?_, ?_⟩ <;> rw [if_neg (fun c => c h), h0, h1, h2] <;> rfl
theorem fr_n (h : g s = -1) (h0 : fdS adj n s 0 g = false) (h1 : fdS adj n s 1 g = false) (h2 : fdS adj n s 2 g = false) : frV adj n s g = -1 ∧ frN adj n s g = -1 := by
  unfold frV frN
  refine ⟨?_, ?_⟩ <;> rw [if_neg (fun c => c h), h0, h1, h2] <;> rfl
end
section
variable {n T : Nat} {adj : Nat → Nat → Bool}
theorem fd0_C {s : Nat} {g : Nat → Int} (hl0 : LyX8 S) (hl1 : LyX0 S T) (hsn : s < n) (hA : cAd I T n adj) (hp : pnt (I 146) g n) : Ca (d + 2) mX8_isFreedBy [vR (some (18, 0, 144)), vR (some (11, 0, T)), vI (s : Int), vI 0] (I, S) (.inl (some (vI (if fdS adj n s 0 g = true then 1 else 0)))) (I, S) := by
  have h6 := hA.1
  have hn := hA.2.1
  refine w_X8_isFreedBy_0 hl0 hl1 (fun h => absurd h (by omega)) (fun _ => ?_)
  have e : frC (I 146) (I (T + 5) s) 4 = btN (fun c => frP adj g n s (c : Int)) 4 := pnt_frC hp (fun i hi => hA.2.2.1 s i hsn)
  refine ite_iff ?_
  show frC (I 146) (I (T + 5) s) 4 ≠ 0 ↔ _
  rw [e]
  exact btN_ne (by decide)
/-- one round of the class: with whether, and the first move -/
theorem fdk_C {s : Nat} {g : Nat → Int} (hT : T = 34 ∨ T = 77) (hl0 : LyX8 S) (hl1 : LyX0 S T) (hsn : s < n) (hA : cAd I T n adj) (hp : pnt (I 146) g n) (k : Nat) (hk : k ≤ 2) : ∃ J, Ca (d + 4) mX8_isFreedBy [vR (some (18, 0, 144)), vR (some (11, 0, T)), vI (s : Int), vI (k : Int)] (I, S) (.inl (some (vI (if fdS adj n s k g = true then 1 else 0)))) (J, S) ∧ (∀ a, a ≠ 146 → a ≠ 144 → J a = I a) ∧ (∀ i, i ≠ 3 → J 144 i = I 144 i) ∧ pnt (J 146) g n ∧ (fdS adj n s k g = false → J 144 3 = I 144 3) ∧ (fdS adj n s k g = true → J 144 3 = if k = 0 then I 144 3 else mvO (fdF adj n s (k - 1) g)) := by
  cases k with
  | zero => exact ⟨I, fd0_C (d := d + 2) hl0 hl1 hsn hA hp, fun _ _ _ => rfl, fun _ _ => rfl, hp, fun _ => rfl, fun _ => rfl⟩
  | succ k =>
    obtain ⟨J, z, h1, h2, h3, hz, h4, h5, h6⟩ := fd_C hT hl0 hl1 hsn (k + 1) (d + 2) I g (by omega) (by omega) hA hp
    subst hz
    exact ⟨J, h1, h2, h3, h4, h5, fun h => by rw [h6 k rfl h]; rfl⟩
theorem sf_C {s : Nat} {g : Nat → Int} (hT : T = 34 ∨ T = 77) (hl0 : LyX8 S) (hl1 : LyX0 S T) (hs : s < n) (hA : cAd I T n adj) (hp : pnt (I 146) g n) : ∃ J, Ca (d + 5) mX8_seekFree [vR (some (18, 0, 144)), vR (some (11, 0, T)), vI (s : Int)] (I, S) (.inl none) (J, S) ∧ (∀ a, a ≠ 146 → a ≠ 144 → J a = I a) ∧ pnt (J 146) g n ∧ J 144 1 = frN adj n s g ∧ J 144 3 = frV adj n s g ∧ ∀ i, i ≠ 1 → i ≠ 3 → J 144 i = I 144 i := by
  have f0 : ∀ a, a ≠ 146 → a ≠ 144 → up2 (up2 I 144 1 (-1)) 144 3 (-1) a = I a := fun a _ h => funext (fun j => by rw [up2_a _ h, up2_a _ h])
  have f1 : ∀ i, i ≠ 1 → i ≠ 3 → up2 (up2 I 144 1 (-1)) 144 3 (-1) 144 i = I 144 i := fun i h1 h3 => by rw [up2_k _ h3, up2_k _ h1]
  by_cases hg : g s ≠ -1
  · refine ⟨up2 (up2 I 144 1 (-1)) 144 3 (-1), w_X8_seekFree_0 (d := d + 3) hl0 hl1 (fun h => absurd ((pnt_any hp hs).mpr hg) h) (e1 := fun _ => rfl), f0, hp, ?_, ?_, f1⟩
    · unfold frN; rw [if_pos hg]; rfl
    · unfold frV; rw [if_pos hg]; rfl
  have lp : ∀ (t k : Nat) (X : Nat → Nat → Int), k + t = 3 → (∀ a, a ≠ 146 → a ≠ 144 → X a = I a) → pnt (X 146) g n → X 144 1 = -1 → X 144 3 = -1 → (∀ i, i ≠ 1 → i ≠ 3 → X 144 i = I 144 i) → (∀ j, j < k → fdS adj n s j g = false) →
      ∃ J, L_X8_seekFree_24 (d + 3) 144 T (s : Int) (k : Int) X S (J, S) ∧ (∀ a, a ≠ 146 → a ≠ 144 → J a = I a) ∧ pnt (J 146) g n ∧ J 144 1 = frN adj n s g ∧ J 144 3 = frV adj n s g ∧ ∀ i, i ≠ 1 → i ≠ 3 → J 144 i = I 144 i := by
    intro t
    induction t with
    | zero =>
      intro k X hk hX hpX h1 h3 hi hf
      refine ⟨X, w_X8_seekFree_24 (J1 := X) (z1 := false) hl0 hl1 (fun h => absurd h (by omega)) (fun h => absurd h (by omega)) (fun h => absurd h (by omega)) (e1 := fun _ => rfl) (e2 := fun h => absurd h (by omega)), hX, hpX, ?_, ?_, hi⟩
      · unfold frN; rw [if_neg hg, hf 0 (by omega), hf 1 (by omega), hf 2 (by omega), h1]; rfl
      · unfold frV; rw [if_neg hg, hf 0 (by omega), hf 1 (by omega), hf 2 (by omega), h3]; rfl
    | succ t ih =>
      intro k X hk hX hpX h1 h3 hi hf
      obtain ⟨J1, c1, c2, c3, c4, c5, c6⟩ := fdk_C (d := d) hT hl0 hl1 hs (cAd_of hT hA hX) hpX k (by omega)
      have hX1 : ∀ a, a ≠ 146 → a ≠ 144 → J1 a = I a := fun a h h' => by rw [c2 a h h']; exact hX a h h'
      have hi1 : ∀ i, i ≠ 1 → i ≠ 3 → J1 144 i = I 144 i := fun i h h' => by rw [c3 i h']; exact hi i h h'
      cases hz : fdS adj n s k g with
      | false =>
        obtain ⟨J, g1, g2⟩ := ih (k + 1) J1 (by omega) hX1 c4 (by rw [c3 1 (by decide)]; exact h1) (by rw [c5 hz]; exact h3) hi1 (fun j hj => by
          by_cases e : j = k
          · rw [e]; exact hz
          · exact hf j (by omega))
        rw [hz] at c1
        exact ⟨J, w_X8_seekFree_24 (J1 := J1) (z1 := false) hl0 hl1 (fun _ _ => c1) (fun _ _ _ => g1) (fun _ _ h => absurd h (by decide)) (e1 := fun h => absurd h (by omega)) (e2 := fun _ h => absurd h1 h), g2⟩
      | true =>
        rw [hz] at c1
        have e1 : (up2 J1 144 1 (k : Int)) 144 1 = (k : Int) := up2_same _ _ _ _
        refine ⟨up2 J1 144 1 (k : Int), w_X8_seekFree_24 (J1 := J1) (z1 := true) hl0 hl1 (fun _ _ => c1) (fun _ _ h => absurd rfl h) (fun _ _ _ => ?_) (e1 := fun h => absurd h (by omega)) (e2 := fun _ h => absurd h1 h), fun a h h' => by rw [show up2 J1 144 1 (k : Int) a = J1 a from funext (fun j => up2_a _ h')]; exact hX1 a h h', c4, ?_, ?_, fun i h h' => by rw [up2_k _ h]; exact hi1 i h h'⟩
        · exact w_X8_seekFree_24 (J1 := X) (z1 := false) hl0 hl1 (fun _ h => absurd h (by omega)) (fun _ h => absurd h (by omega)) (fun _ h => absurd h (by omega)) (e1 := fun _ => rfl) (e2 := fun _ _ => rfl)
        · rw [e1]
          have : k = 0 ∨ k = 1 ∨ k = 2 := by omega
          unfold frN
          rw [if_neg hg]
          rcases this with rfl | rfl | rfl
          · rw [hz]; rfl
          · rw [hf 0 (by omega), hz]; rfl
          · rw [hf 0 (by omega), hf 1 (by omega), hz]; rfl
        · rw [up2_k _ (by decide), c6 hz]
          have : k = 0 ∨ k = 1 ∨ k = 2 := by omega
          unfold frV
          rw [if_neg hg]
          rcases this with rfl | rfl | rfl
          · rw [hz, if_pos rfl, if_pos rfl]; exact h3
          · rw [hf 0 (by omega), hz]; rfl
          · rw [hf 0 (by omega), hf 1 (by omega), hz]; rfl
  obtain ⟨J, g1, g2⟩ := lp 3 0 (up2 (up2 I 144 1 (-1)) 144 3 (-1)) rfl f0 hp rfl rfl f1 (fun j hj => absurd hj (by omega))
  exact ⟨J, w_X8_seekFree_0 (d := d + 3) hl0 hl1 (fun _ => g1) (e1 := fun h => absurd ((pnt_any hp hs).mp h) hg), g2⟩
/-- the reference's free -/
def feF (I J : Nat → Nat → Int) : Prop := (∀ a, a ≠ 178 → a ≠ 182 → a ≠ 156 → J a = I a) ∧ (∀ i, i < 18 → J 178 i = I 178 i) ∧ J 156 0 = 0 ∧ ∀ k, k ≠ 0 → J 156 k = I 156 k
theorem feF_of {J : Nat → Nat → Int} (h : ifF (up2 I 156 0 0) J) : feF I J := by
  refine ⟨fun a h1 h2 h3 => ?_, fun i hi => ?_, ?_, fun k hk => ?_⟩
  · rw [h.1 a h1 h2]; exact funext (fun j => up2_a _ h3)
  · rw [h.2 i hi]; exact up2_a _ (by decide)
  · rw [h.1 156 (by decide) (by decide)]; exact up2_same _ _ _ _
  · rw [h.1 156 (by decide) (by decide)]; exact up2_k _ hk
theorem ifF_trans {J K : Nat → Nat → Int} (h1 : ifF I J) (h2 : ifF J K) : ifF I K := ⟨fun a x y => by rw [h2.1 a x y]; exact h1.1 a x y, fun i hi => by rw [h2.2 i hi]; exact h1.2 i hi⟩
theorem fe_lp {s : Nat} {x2 R : Int} {g : Nat → Int} (hl0 : LyX12 S) (hA : mAd I n adj) (hs : s < n) (hg : ∀ i, i < n → gR I 0 i = g i) (hok : rOk g n) {w : Int} {k : Nat} (hw : (w = 1 ∧ k = 0) ∨ (w = 2 ∧ k = 1))
    (hres : ∀ m, m < 4 * n → fdP adj n s k g m = true → (∀ j, j < m → fdP adj n s k g j = false) → (if x2 ≠ 0 then mvO (m : Int) else w) = R)
    (next : (∀ m, m < 4 * n → fdP adj n s k g m = false) → ∀ J, ifF I J → ∃ J', L_X12_free_57 d 156 (s : Int) x2 (w + 1) J S R (J', S) ∧ ifF I J') :
    ∀ (r u : Nat) (J : Nat → Nat → Int), u + r = n → (∀ m, m < 4 * u → fdP adj n s k g m = false) → ifF I J → ∃ J', L_X12_free_65 d 156 (s : Int) x2 w (u : Int) J S R (J', S) ∧ ifF I J' := by
  have h15 := hA.1
  have hn := hA.2.1
  obtain ⟨P, hP⟩ : ∃ P, P = fdP adj n s k g := ⟨_, rfl⟩
  rw [← hP] at hres next
  rw [← hP]
  intro r
  induction r with
  | zero =>
    intro u J hu hno hF
    have h15J : J 156 15 = (n : Int) := by rw [hF.1 156 (by decide) (by decide)]; exact h15
    obtain ⟨J', g1, g2⟩ := next (fun m hm => hno m (by omega)) J hF
    exact ⟨J', w_X12_free_65 hl0 (fun _ => g1) (fun h => absurd h (by omega)), g2⟩
  | succ r ihr =>
    intro u J hu hno hF
    have h15J : J 156 15 = (n : Int) := by rw [hF.1 156 (by decide) (by decide)]; exact h15
    have hun : u < n := by omega
    have inner : ∀ (q c : Nat) (J : Nat → Nat → Int), q + c = 4 → (∀ m, m < 4 * u + c → P m = false) → ifF I J → ∃ J', L_X12_free_77 d 156 (s : Int) x2 w (u : Int) (c : Int) J S R (J', S) ∧ ifF I J' := by
      intro q
      induction q with
      | zero =>
        intro c J hc hno hF
        obtain ⟨J', hL, hF'⟩ := ihr (u + 1) J (by omega) (fun m hm => hno m (by omega)) hF
        exact ⟨J', w_X12_free_77 (J1 := J) (z1 := false) hl0 (fun _ => hL) (fun h => absurd h (by omega)) (fun h => absurd h (by omega)) (fun h => absurd h (by omega)) (fun h => absurd h (by omega)) (fun h => absurd h (by omega)) (e1 := fun h => absurd h (by omega)) (r2 := fun h => absurd h (by omega)) (e2 := fun h => absurd h (by omega)) (v4 := fun h => absurd h (by omega)) (v5 := fun h => absurd h (by omega)) (v6 := fun h => absurd h (by omega)) (v10 := fun h => absurd h (by omega)) (v11 := fun h => absurd h (by omega)) (v12 := fun h => absurd h (by omega)), hF'⟩
      | succ q ihq =>
        intro c J hc hno hF
        have h15J : J 156 15 = (n : Int) := by rw [hF.1 156 (by decide) (by decide)]; exact h15
        have hAJ : mAd J n adj := mAd_of hA (by rw [h15J, h15]) (hF.1 161 (by decide) (by decide))
        have hd := mAd_deg hAJ hs
        have hnb : ∀ k' : Nat, (k' : Int) < J 161 (10 * (s : Int)).toNat → 0 ≤ J 161 (((10 * (s : Int)) + 1) + (k' : Int)).toNat ∧ J 161 (((10 * (s : Int)) + 1) + (k' : Int)).toNat < 12 := fun k' hk' => by
          have := mAd_nb hAJ hs hk'; omega
        have hrow0 : ∀ i, i < n → gR J 0 i = g i := fun i hi => by
          rw [gR_0, hF.2 i (by omega), ← gR_0 I i]; exact hg i hi
        have hcs : canS (gR J 0) u (c : Int) = canS g u (c : Int) := by unfold canS; rw [hrow0 u hun]
        have hmc := canS_m (I := J) (b := 0) (s := u) (c := (c : Int))
        rw [hcs] at hmc
        have hPm : P (4 * u + c) = (canS g u (c : Int) && fdS adj n s k (swG adj g n u (c : Int))) := by
          rw [hP]; unfold fdP; rw [(dm4 u c (by omega)).1, (dm4 u c (by omega)).2]
        by_cases hcan : canS g u (c : Int) = true
        · -- the swap is laid out
          have hFt : ifF I (trI J) := ⟨fun a h1 h2 => by
              show up1 J 178 _ a = _
              rw [up1_o J h1]; exact hF.1 a h1 h2, fun i hi => by
              show up1 J 178 _ 178 i = _
              rw [up1_same, upTo_out (by omega)]; exact hF.2 i hi⟩
          have hAt : mAd (trI J) n adj := mAd_of hA (by rw [hFt.1 156 (by decide) (by decide)]) (hFt.1 161 (by decide) (by decide))
          have hrowt : ∀ i, i < n → gR (trI J) 18 i = g i := fun i hi => by
            rw [gR_18]
            show up1 J 178 _ 178 (18 + i) = _
            rw [up1_same, upTo_in (by omega), show 18 + i - 18 = i by omega, ← gR_0 J i]
            exact hrow0 i hi
          have hcst : canS (gR (trI J) 18) u (c : Int) = true := by
            have : canS (gR (trI J) 18) u (c : Int) = canS g u (c : Int) := by unfold canS; rw [hrowt u hun]
            rw [this]; exact hcan
          have hF2 : ifF I (swI (trI J) 18 (u : Int) (c : Int)) := ifF_sw h15 hFt
          have hA2 : mAd (swI (trI J) 18 (u : Int) (c : Int)) n adj := mAd_of hA (by rw [hF2.1 156 (by decide) (by decide)]) (hF2.1 161 (by decide) (by decide))
          have hrow2 : ∀ i, i < n → gR (swI (trI J) 18 (u : Int) (c : Int)) 18 i = swG adj g n u (c : Int) i := fun i hi => by
            rw [swI_row hAt hun (Or.inr rfl) hcst i hi]
            exact swG_congr hun hrowt i hi
          have hok3 : rOk (swG adj g n u (c : Int)) n := swG_ok hok hun hcan
          have hok2 : rOk (gR (swI (trI J) 18 (u : Int) (c : Int)) 18) n := fun i hi => by rw [hrow2 i hi]; exact hok3 i hi
          have val : (if x2 ≠ 0 then ((10 * (u : Int)) + (c : Int) : Int) else w) = (if x2 ≠ 0 then mvO ((4 * u + c : Nat) : Int) else w) := by
            have : mvO ((4 * u + c : Nat) : Int) = (10 * (u : Int)) + (c : Int) := by unfold mvO; omega
            rw [this]
          have more : P (4 * u + c) = false → ∀ J, ifF I J → ∃ J', L_X12_free_77 d 156 (s : Int) x2 w (u : Int) ((c : Int) + 1) J S R (J', S) ∧ ifF I J' := fun hPt J hF => ihq (c + 1) J (by omega) (fun m hm => by
            by_cases em : m = 4 * u + c
            · rw [em]; exact hPt
            · exact hno m (by omega)) hF
          rcases hw with ⟨rfl, rfl⟩ | ⟨rfl, rfl⟩
          · have hfd := frF_ne hA2 hs (b := 18) hok2
            have hfd2 : fdS adj n s 0 (gR (swI (trI J) 18 (u : Int) (c : Int)) 18) = fdS adj n s 0 (swG adj g n u (c : Int)) := anyB_congr (fun c' _ => frP_congr hrow2)
            rw [hfd2] at hfd
            have e161 : swI (trI J) 18 (u : Int) (c : Int) 161 = J 161 := swI_a (by decide)
            rw [e161] at hfd
            by_cases hfr : fdS adj n s 0 (swG adj g n u (c : Int)) = true
            · have hPt : P (4 * u + c) = true := by rw [hPm, hcan, hfr]; rfl
              refine ⟨swI (trI J) 18 (u : Int) (c : Int), w_X12_free_77 (J1 := J) (z1 := false) hl0 (fun h => absurd h (by omega)) (fun _ _ h => absurd rfl h) (fun _ _ h => absurd rfl h) (fun _ _ _ h => absurd h (hfd.mpr hfr)) (fun _ h => absurd (hmc.mpr hcan) h) (fun _ _ h => absurd rfl h) (e1 := fun _ _ h => absurd rfl h) (r2 := fun _ _ _ _ => ?_) (e2 := fun _ _ _ _ => rfl) (v4 := fun _ _ => hAt.2.2.1) (v5 := fun _ _ => hAt.2.2.2.1) (v6 := fun _ _ => by omega) (v10 := fun _ _ _ => by omega) (v11 := fun _ _ _ => by omega) (v12 := fun _ _ _ => hnb), hF2⟩
              rw [val]
              exact hres _ (by omega) hPt hno
            · have hPt : P (4 * u + c) = false := by rw [hPm, Bool.eq_false_iff.mpr hfr, Bool.and_false]
              obtain ⟨J', hL, hF'⟩ := more hPt _ hF2
              exact ⟨J', w_X12_free_77 (J1 := J) (z1 := false) hl0 (fun h => absurd h (by omega)) (fun _ _ h => absurd rfl h) (fun _ _ h => absurd rfl h) (fun _ _ _ _ => hL) (fun _ h => absurd (hmc.mpr hcan) h) (fun _ _ h => absurd rfl h) (e1 := fun _ _ h => absurd rfl h) (r2 := fun _ _ _ h => absurd (hfd.mp h) hfr) (e2 := fun _ _ _ h => absurd (hfd.mp h) hfr) (v4 := fun _ _ => hAt.2.2.1) (v5 := fun _ _ => hAt.2.2.2.1) (v6 := fun _ _ => by omega) (v10 := fun _ _ _ => by omega) (v11 := fun _ _ _ => by omega) (v12 := fun _ _ _ => hnb), hF'⟩
          · obtain ⟨J1, c1, c2⟩ := if_M (d := d) hl0 hA2 hs hrow2 hok3
            have hF3 : ifF I J1 := ifF_trans hF2 c2
            cases hz : fdS adj n s 1 (swG adj g n u (c : Int)) with
            | true =>
              have hPt : P (4 * u + c) = true := by rw [hPm, hcan, hz]; rfl
              rw [hz] at c1
              refine ⟨J1, w_X12_free_77 (J1 := J1) (z1 := true) hl0 (fun h => absurd h (by omega)) (fun _ _ _ => c1) (fun _ _ _ h => absurd rfl h) (fun _ _ h => absurd h (by decide)) (fun _ h => absurd (hmc.mpr hcan) h) (fun _ _ _ _ => ?_) (e1 := fun _ _ _ _ => rfl) (r2 := fun _ _ h => absurd h (by decide)) (e2 := fun _ _ h => absurd h (by decide)) (v4 := fun _ _ => hAt.2.2.1) (v5 := fun _ _ => hAt.2.2.2.1) (v6 := fun _ _ => by omega) (v10 := fun _ _ h => absurd h (by decide)) (v11 := fun _ _ h => absurd h (by decide)) (v12 := fun _ _ h => absurd h (by decide)), hF3⟩
              rw [val]
              exact hres _ (by omega) hPt hno
            | false =>
              have hPt : P (4 * u + c) = false := by rw [hPm, hz, Bool.and_false]
              rw [hz] at c1
              obtain ⟨J', hL, hF'⟩ := more hPt _ hF3
              exact ⟨J', w_X12_free_77 (J1 := J1) (z1 := false) hl0 (fun h => absurd h (by omega)) (fun _ _ _ => c1) (fun _ _ _ _ => hL) (fun _ _ h => absurd h (by decide)) (fun _ h => absurd (hmc.mpr hcan) h) (fun _ _ _ h => absurd h (by decide)) (e1 := fun _ _ _ h => absurd h (by decide)) (r2 := fun _ _ h => absurd h (by decide)) (e2 := fun _ _ h => absurd h (by decide)) (v4 := fun _ _ => hAt.2.2.1) (v5 := fun _ _ => hAt.2.2.2.1) (v6 := fun _ _ => by omega) (v10 := fun _ _ h => absurd h (by decide)) (v11 := fun _ _ h => absurd h (by decide)) (v12 := fun _ _ h => absurd h (by decide)), hF'⟩
        · have hPt : P (4 * u + c) = false := by rw [hPm, Bool.eq_false_iff.mpr hcan, Bool.false_and]
          obtain ⟨J', hL, hF'⟩ := ihq (c + 1) J (by omega) (fun m hm => by
            by_cases em : m = 4 * u + c
            · rw [em]; exact hPt
            · exact hno m (by omega)) hF
          exact ⟨J', w_X12_free_77 (J1 := J) (z1 := false) hl0 (fun h => absurd h (by omega)) (fun _ h => absurd (hmc.mp h) hcan) (fun _ h => absurd (hmc.mp h) hcan) (fun _ h => absurd (hmc.mp h) hcan) (fun _ _ => hL) (fun _ h => absurd (hmc.mp h) hcan) (e1 := fun _ h => absurd (hmc.mp h) hcan) (r2 := fun _ h => absurd (hmc.mp h) hcan) (e2 := fun _ h => absurd (hmc.mp h) hcan) (v4 := fun _ h => absurd (hmc.mp h) hcan) (v5 := fun _ h => absurd (hmc.mp h) hcan) (v6 := fun _ h => absurd (hmc.mp h) hcan) (v10 := fun _ h => absurd (hmc.mp h) hcan) (v11 := fun _ h => absurd (hmc.mp h) hcan) (v12 := fun _ h => absurd (hmc.mp h) hcan), hF'⟩
    obtain ⟨J', hL, hF'⟩ := inner 4 0 J rfl (fun m hm => hno m (by omega)) hF
    exact ⟨J', w_X12_free_65 hl0 (fun h => absurd h (by omega)) (fun _ => hL), hF'⟩
theorem fe_M {s : Nat} {x2 : Int} (hl0 : LyX12 S) (hA : mAd I n adj) (hs : s < n) (hok : rOk (gR I 0) n) (hx : 0 ≤ x2 ∧ x2 ≤ 1) : ∃ J, Ca (d + 4) mX12_free [vR (some (22, 0, 156)), vI (s : Int), vI x2] (I, S) (.inl (some (vI (if x2 ≠ 0 then frV adj n s (gR I 0) else frN adj n s (gR I 0))))) (J, S) ∧ feF I J := by
  have h15 := hA.1
  have hn := hA.2.1
  have hA0 : mAd (up2 I 156 0 0) n adj := mAd_of hA rfl rfl
  obtain ⟨g, hg⟩ : ∃ g, g = gR I 0 := ⟨_, rfl⟩
  have hg0 : ∀ i, i < n → gR (up2 I 156 0 0) 0 i = g i := fun i _ => by rw [hg]; rfl
  have hok' : rOk g n := by rw [hg]; exact hok
  have hd := mAd_deg hA hs
  have hnb : ∀ k' : Nat, (k' : Int) < I 161 (10 * (s : Int)).toNat → 0 ≤ I 161 (((10 * (s : Int)) + 1) + (k' : Int)).toNat ∧ I 161 (((10 * (s : Int)) + 1) + (k' : Int)).toNat < 12 := fun k' hk' => by
    have := mAd_nb hA hs hk'; omega
  have egs : I 178 ((s : Int)).toNat = g s := by rw [hg, gR_0, Int.toNat_natCast]
  have hfd : frF (up2 I 156 0 0) 0 (s : Int) (I 161 (10 * (s : Int)).toNat).toNat ≠ 0 ↔ fdS adj n s 0 g = true := by
    rw [hg]; exact frF_ne hA0 hs (b := 0) hok
  rw [← hg]
  obtain ⟨R, hR⟩ : ∃ R : Int, R = if x2 ≠ 0 then frV adj n s g else frN adj n s g := ⟨_, rfl⟩
  rw [← hR]
  have hF0 : ifF (up2 I 156 0 0) (up2 I 156 0 0) := ⟨fun _ _ _ => rfl, fun _ _ => rfl⟩
  by_cases h1 : g s = -1
  · by_cases h2 : fdS adj n s 0 g = true
    · refine ⟨up2 I 156 0 0, w_X12_free_0 hl0 (fun _ _ _ h => absurd h (hfd.mpr h2)) (fun _ _ _ _ => ?_) (e1 := fun _ _ _ _ => rfl) (r2 := fun _ _ h => absurd (egs.trans h1) h) (e2 := fun _ _ h => absurd (egs.trans h1) h) (r3 := fun _ h => absurd hx h) (e3 := fun _ h => absurd hx h) (r4 := fun h => absurd (by omega) h) (e4 := fun h => absurd (by omega) h) (v3 := fun _ _ _ => by omega) (v4 := fun _ _ _ => hnb), feF_of hF0⟩
      rw [hR, (fr_0 h1 h2).1, (fr_0 h1 h2).2]
    · have f0 : fdS adj n s 0 g = false := Bool.eq_false_iff.mpr h2
      have key : ∃ J, L_X12_free_57 d 156 (s : Int) x2 1 (up2 I 156 0 0) S R (J, S) ∧ ifF (up2 I 156 0 0) J := by
        have uq : ∀ (k m : Nat), m < 4 * n → fdP adj n s k g m = true → (∀ j, j < m → fdP adj n s k g j = false) → fdF adj n s k g = (m : Int) := fun k m hm hp hu => fstB_uniq hm hp hu
        have last : (∀ m, m < 4 * n → fdP adj n s 0 g m = false) → (∀ m, m < 4 * n → fdP adj n s 1 g m = false) → ∀ J, ifF (up2 I 156 0 0) J → ∃ J', L_X12_free_57 d 156 (s : Int) x2 (2 + 1) J S R (J', S) ∧ ifF (up2 I 156 0 0) J' := by
          intro a1 a2 J hF
          have b1 : fdS adj n s 1 g = false := Bool.eq_false_iff.mpr (fun c => by
            obtain ⟨m, hm, w⟩ := anyB_iff.mp c
            have := a1 m hm
            unfold fdP at this
            rw [this] at w; cases w)
          have b2 : fdS adj n s 2 g = false := Bool.eq_false_iff.mpr (fun c => by
            obtain ⟨m, hm, w⟩ := anyB_iff.mp c
            have := a2 m hm
            unfold fdP at this
            rw [this] at w; cases w)
          refine ⟨J, w_X12_free_57 hl0 (fun h => absurd h (by omega)) (fun _ => ?_) (e1 := fun _ => rfl), hF⟩
          rw [hR, (fr_n h1 f0 b1 b2).1, (fr_n h1 f0 b1 b2).2]
          split <;> rfl
        have two : (∀ m, m < 4 * n → fdP adj n s 0 g m = false) → ∀ J, ifF (up2 I 156 0 0) J → ∃ J', L_X12_free_57 d 156 (s : Int) x2 (1 + 1) J S R (J', S) ∧ ifF (up2 I 156 0 0) J' := by
          intro a1 J hF
          have b1 : fdS adj n s 1 g = false := Bool.eq_false_iff.mpr (fun c => by
            obtain ⟨m, hm, w⟩ := anyB_iff.mp c
            have := a1 m hm
            unfold fdP at this
            rw [this] at w; cases w)
          obtain ⟨J', g1, g2⟩ := fe_lp (d := d) (x2 := x2) (R := R) hl0 hA0 hs hg0 hok' (w := 2) (k := 1) (Or.inr ⟨rfl, rfl⟩) (fun m hm hp hu => by
            have b2 : fdS adj n s 2 g = true := anyB_yes hm hp
            rw [hR, (fr_2 h1 f0 b1 b2).1, (fr_2 h1 f0 b1 b2).2, uq 1 m hm hp hu]) (last a1) n 0 J (by omega) (fun m hm => absurd hm (by omega)) hF
          exact ⟨J', w_X12_free_57 hl0 (fun _ => g1) (fun h => absurd h (by omega)) (e1 := fun h => absurd h (by omega)), g2⟩
        obtain ⟨J', g1, g2⟩ := fe_lp (d := d) (x2 := x2) (R := R) hl0 hA0 hs hg0 hok' (w := 1) (k := 0) (Or.inl ⟨rfl, rfl⟩) (fun m hm hp hu => by
            have b1 : fdS adj n s 1 g = true := anyB_yes hm hp
            rw [hR, (fr_1 h1 f0 b1).1, (fr_1 h1 f0 b1).2, uq 0 m hm hp hu]) two n 0 _ (by omega) (fun m hm => absurd hm (by omega)) hF0
        exact ⟨J', w_X12_free_57 hl0 (fun _ => g1) (fun h => absurd h (by omega)) (e1 := fun h => absurd h (by omega)), g2⟩
      obtain ⟨J, g1, g2⟩ := key
      exact ⟨J, w_X12_free_0 hl0 (fun _ _ _ _ => g1) (fun _ _ _ h => absurd (hfd.mp h) h2) (e1 := fun _ _ _ h => absurd (hfd.mp h) h2) (r2 := fun _ _ h => absurd (egs.trans h1) h) (e2 := fun _ _ h => absurd (egs.trans h1) h) (r3 := fun _ h => absurd hx h) (e3 := fun _ h => absurd hx h) (r4 := fun h => absurd (by omega) h) (e4 := fun h => absurd (by omega) h) (v3 := fun _ _ _ => by omega) (v4 := fun _ _ _ => hnb), feF_of g2⟩
  · refine ⟨up2 I 156 0 0, w_X12_free_0 hl0 (fun _ _ h => absurd (egs.symm.trans h) h1) (fun _ _ h => absurd (egs.symm.trans h) h1) (e1 := fun _ _ h => absurd (egs.symm.trans h) h1) (r2 := fun _ _ _ => ?_) (e2 := fun _ _ _ => rfl) (r3 := fun _ h => absurd hx h) (e3 := fun _ h => absurd hx h) (r4 := fun h => absurd (by omega) h) (e4 := fun h => absurd (by omega) h) (v3 := fun _ _ _ => by omega) (v4 := fun _ _ _ => hnb), feF_of hF0⟩
    rw [hR, (fr_p h1).1, (fr_p h1).2]
    split <;> rfl
end
/-- whether a piece is C, by the class -/
def icC (I : Nat → Nat → Int) (a : Nat) : Bool := (decide (I a 6 ≠ 0) && decide (smI (fun k => bcn (I (a + 8) k) 32) 3 ≠ 0)) && allB (fun k => decide (p_and (I (a + 8) k) (I (a + 7) k) = 0)) 3
theorem c_X3_isC {a0 : Nat} (hl0 : LyX3 S a0) : Ca (d + 2) mX3_isC [vR (some (14, 0, a0))] (I, S) (.inl (some (vI (if icC I a0 = true then 1 else 0)))) (I, S) := by
  by_cases h6 : I a0 6 = 0
  · exact w_X3_isC_0 hl0 (fun h => absurd h6 h) (fun _ => by unfold icC; rw [decide_eq_false (fun c => c h6)]; rfl) (r2 := fun h => absurd h6 h)
  by_cases hz : smI (fun k => bcn (I (a0 + 8) k) 32) 3 = 0
  · exact w_X3_isC_0 hl0 (fun _ h => absurd hz h) (fun h => absurd h h6) (r2 := fun _ _ => by unfold icC; rw [decide_eq_true h6, decide_eq_false (fun c => c hz)]; rfl)
  refine w_X3_isC_0 hl0 (fun _ _ => ?_) (fun h => absurd h h6) (r2 := fun _ h => absurd h hz)
  have e : icC I a0 = allB (fun k => decide (p_and (I (a0 + 8) k) (I (a0 + 7) k) = 0)) 3 := by unfold icC; rw [decide_eq_true h6, decide_eq_true hz]; rfl
  rw [e]
  refine up_loopN (P := fun k => allB (fun k => decide (p_and (I (a0 + 8) k) (I (a0 + 7) k) = 0)) k = true → L_X3_isC_22 d a0 k I S (if allB (fun k => decide (p_and (I (a0 + 8) k) (I (a0 + 7) k) = 0)) 3 = true then 1 else 0) (I, S)) (n := 3) ?_ ?_ rfl
  · intro ha
    exact w_X3_isC_22 hl0 (fun h => absurd h (by omega)) (fun _ => by rw [ha]; rfl) (r2 := fun h => absurd h (by omega))
  · intro k hk ih ha
    exact w_X3_isC_22 hl0 (fun _ c => ih (allB_succ ha (decide_eq_true c))) (fun h => absurd h (by omega)) (r2 := fun _ c => by rw [allB_no (p := fun k => decide (p_and (I (a0 + 8) k) (I (a0 + 7) k) = 0)) hk (decide_eq_false c)]; rfl)
/-- figures of 3 -/
def dg3 (c : Nat) : Nat → Nat
  | 0 => c % 3
  | i + 1 => dg3 (c / 3) i
def rw3 (c n j : Nat) : Int := 5 + (dg3 c (n - 1 - j) : Int)
theorem dg3_lt (c : Nat) : ∀ i, dg3 c i < 3 := by
  intro i
  induction i generalizing c with
  | zero => exact Nat.mod_lt _ (by decide)
  | succ i ih => exact ih _
theorem nr_C (hl0 : LyX1 S) {x1 : Int} : ∀ (t m : Nat) (X : Nat → Nat → Int), t ≤ 7 → (∀ j, j < t → X 124 j = rw3 m t j) → ∃ J, L_X1_nextRow_4 d 121 x1 ((t : Int) - 1) X S (J, S) ∧ (∀ a, a ≠ 124 → J a = X a) ∧ (∀ j, j < t → J 124 j = rw3 (m + 1) t j) ∧ ∀ j, t ≤ j → J 124 j = X 124 j := by
  intro t
  induction t with
  | zero =>
    intro m X ht hX
    exact ⟨X, w_X1_nextRow_4 hl0 (fun h => absurd h (by omega)) (e1 := fun _ _ => rfl) (e2 := fun _ h => absurd h (by omega)) (e3 := fun h => absurd h (by omega)) (e4 := fun h => absurd h (by omega)) (v1 := fun _ h => absurd h (by omega)) (v3 := fun h => absurd h (by omega)), fun _ _ => rfl, fun j hj => absurd hj (by omega), fun _ _ => rfl⟩
  | succ t ih =>
    intro m X ht hX
    have e0 : X 124 (((t + 1 : Nat) : Int) - 1).toNat = 5 + ((m % 3 : Nat) : Int) := by
      rw [show (((t + 1 : Nat) : Int) - 1).toNat = t by omega, hX t (by omega)]
      unfold rw3
      rw [show t + 1 - 1 - t = 0 by omega]
      rfl
    have en : (((t + 1 : Nat) : Int) - 1).toNat = t := by omega
    have dn : ∀ (c j : Nat), j < t → rw3 c (t + 1) j = rw3 (c / 3) t j := by
      intro c j hj
      unfold rw3
      rw [show t + 1 - 1 - j = (t - 1 - j) + 1 by omega]
      rfl
    have d0 : ∀ c : Nat, rw3 c (t + 1) t = 5 + ((c % 3 : Nat) : Int) := by
      intro c
      unfold rw3
      rw [show t + 1 - 1 - t = 0 by omega]
      rfl
    by_cases h2 : m % 3 = 2
    · obtain ⟨J, g1, g2, g3, g4⟩ := ih (m / 3) (up2 X 124 t 5) (by omega) (fun j hj => by rw [up2_k _ (by omega), hX j (by omega), dn m j hj])
      refine ⟨J, w_X1_nextRow_4 hl0 (fun _ _ => ?_) (e1 := fun h => absurd h (by omega)) (e2 := fun h => absurd h (by omega)) (e3 := fun _ h => absurd (by rw [e0]; omega) h) (e4 := fun _ h => absurd (by rw [e0]; omega) h) (v1 := fun h => absurd h (by omega)) (v3 := fun _ => by omega), fun a h => by rw [g2 a h]; exact funext (fun j => up2_a _ h), fun j hj => ?_, fun j hj => by rw [g4 j (by omega), up2_k _ (by omega)]⟩
      · rw [en, show ((t + 1 : Nat) : Int) - 1 - 1 = (t : Int) - 1 by omega]
        exact g1
      · by_cases e : j = t
        · rw [e, g4 t (by omega), up2_same, d0]; omega
        · rw [g3 j (by omega), dn _ j (by omega), show (m + 1) / 3 = m / 3 + 1 by omega]
    · refine ⟨up2 X 124 t (5 + ((m % 3 : Nat) : Int) + 1), w_X1_nextRow_4 hl0 (fun _ h => absurd h (by rw [e0]; omega)) (e1 := fun h => absurd h (by omega)) (e2 := fun h => absurd h (by omega)) (e3 := fun _ _ h => absurd h (by omega)) (e4 := fun _ _ _ => by rw [e0, en]) (v1 := fun h => absurd h (by omega)) (v3 := fun _ => by omega), fun a h => funext (fun j => up2_a _ h), fun j hj => ?_, fun j hj => up2_k _ (by omega)⟩
      by_cases e : j = t
      · rw [e, up2_same, d0]; omega
      · rw [up2_k _ e, hX j (by omega), dn m j (by omega), dn (m + 1) j (by omega), show (m + 1) / 3 = m / 3 by omega]
end
end
