/-! ===== freed by one switch, the reference's ===== -/
noncomputable section
section
variable {S : PS} {n : Nat} {adj : Nat → Nat → Bool} {I : Nat → Nat → Int}
def ifF (I J : Nat → Nat → Int) : Prop := (∀ a, a ≠ 178 → a ≠ 182 → J a = I a) ∧ ∀ i, i < 18 → J 178 i = I 178 i
theorem ifF_sw {J : Nat → Nat → Int} {s c : Int} {k : Nat} (hn : I 156 15 = (k : Int)) (h : ifF I J) : ifF I (swI J 18 s c) := by
  refine ⟨fun a h1 h2 => by rw [swI_a h1]; exact h.1 a h1 h2, fun i hi => ?_⟩
  rw [swI_out (n := k) (by decide) (by rw [h.1 156 (by decide) (by decide)]; exact hn) (by omega)]
  exact h.2 i hi
theorem if_M {d s : Nat} {g : Nat → Int} (hl0 : LyX12 S) (hA : mAd I n adj) (hs : s < n) (hg : ∀ i, i < n → gR I 18 i = g i) (hok : rOk g n) : ∃ J, Ca (d + 3) mX12_isFreed [vR (some (22, 0, 156)), vI (s : Int)] (I, S) (.inl (some (vI (if fdS adj n s 1 g = true then 1 else 0)))) (J, S) ∧ ifF I J := by
  have h15 := hA.1
  have hn := hA.2.1
  obtain ⟨R, hR⟩ : ∃ R : Int, R = if fdS adj n s 1 g = true then 1 else 0 := ⟨_, rfl⟩
  obtain ⟨P, hP⟩ : ∃ P, P = fdP adj n s 0 g := ⟨_, rfl⟩
  have hS : fdS adj n s 1 g = anyB P (4 * n) := by rw [hP]; rfl
  rw [← hR]
  -- over all spots
  have outer : ∀ (r u : Nat) (J : Nat → Nat → Int), u + r = n → (∀ m, m < 4 * u → P m = false) → ifF I J → (∀ i, i < n → J 182 i = g i) → ∃ J', L_X12_isFreed_33 d 156 (s : Int) (u : Int) J S R (J', S) ∧ ifF I J' := by
    intro r
    induction r with
    | zero =>
      intro u J hu hno hF hsp
      have h15J : J 156 15 = (n : Int) := by rw [hF.1 156 (by decide) (by decide)]; exact h15
      refine ⟨J, w_X12_isFreed_33 hl0 (fun h => absurd h (by omega)) (fun _ => ?_), hF⟩
      rw [hR, hS]
      have : anyB P (4 * n) = false := by
        cases q : anyB P (4 * n) with
        | false => rfl
        | true =>
          obtain ⟨m, hm, w⟩ := anyB_iff.mp q
          rw [hno m (by omega)] at w
          cases w
      rw [this]; rfl
    | succ r ihr =>
      intro u J hu hno hF hsp
      have h15J : J 156 15 = (n : Int) := by rw [hF.1 156 (by decide) (by decide)]; exact h15
      have hun : u < n := by omega
      have inner : ∀ (q c : Nat) (J : Nat → Nat → Int), q + c = 4 → (∀ m, m < 4 * u + c → P m = false) → ifF I J → (∀ i, i < n → J 182 i = g i) → ∃ J', L_X12_isFreed_43 d 156 (s : Int) (u : Int) (c : Int) J S R (J', S) ∧ ifF I J' := by
        intro q
        induction q with
        | zero =>
          intro c J hc hno hF hsp
          obtain ⟨J', hL, hF'⟩ := ihr (u + 1) J (by omega) (fun m hm => hno m (by omega)) hF hsp
          exact ⟨J', w_X12_isFreed_43 hl0 (fun _ => hL) (fun h => absurd h (by omega)), hF'⟩
        | succ q ihq =>
          intro c J hc hno hF hsp
          have rest : ∀ (t k : Nat) (J : Nat → Nat → Int), k + t = n → ifF I J → (∀ i, i < n → J 182 i = g i) → (∀ i, i < k → gR J 18 i = g i) → ∃ J', L_X12_isFreed_51 d 156 (s : Int) (u : Int) (c : Int) (k : Int) J S R (J', S) ∧ ifF I J' := by
            intro t
            induction t with
            | zero =>
              intro k J hk hF hsp hrow
              have hkn : k = n := by omega
              subst hkn
              have h15J : J 156 15 = (k : Int) := by rw [hF.1 156 (by decide) (by decide)]; exact h15
              have hA1 : mAd J k adj := mAd_of hA (by rw [h15J, h15]) (hF.1 161 (by decide) (by decide))
              have hokJ : rOk (gR J 18) k := fun i hi => by rw [hrow i hi]; exact hok i hi
              have hcs : canS (gR J 18) u (c : Int) = canS g u (c : Int) := by unfold canS; rw [hrow u hun]
              have hmc := canS_m (I := J) (b := 18) (s := u) (c := (c : Int))
              rw [hcs] at hmc
              have hPm : P (4 * u + c) = (canS g u (c : Int) && fdS adj k s 0 (swG adj g k u (c : Int))) := by
                rw [hP]; unfold fdP; rw [(dm4 u c (by omega)).1, (dm4 u c (by omega)).2]
              by_cases hcan : canS g u (c : Int) = true
              · have hF2 : ifF I (swI J 18 (u : Int) (c : Int)) := ifF_sw h15 hF
                have hA2 : mAd (swI J 18 (u : Int) (c : Int)) k adj := mAd_of hA (by rw [hF2.1 156 (by decide) (by decide)]) (hF2.1 161 (by decide) (by decide))
                have hrow2 : ∀ i, i < k → gR (swI J 18 (u : Int) (c : Int)) 18 i = swG adj g k u (c : Int) i := fun i hi => by
                  rw [swI_row hA1 hun (Or.inr rfl) (hcs.trans hcan) i hi]
                  exact swG_congr hun hrow i hi
                have hok2 : rOk (gR (swI J 18 (u : Int) (c : Int)) 18) k := fun i hi => by rw [hrow2 i hi]; exact swG_ok hok hun hcan i hi
                have hfd := frF_ne hA2 hs (b := 18) hok2
                have hfd2 : fdS adj k s 0 (gR (swI J 18 (u : Int) (c : Int)) 18) = fdS adj k s 0 (swG adj g k u (c : Int)) := anyB_congr (fun c' _ => frP_congr hrow2)
                rw [hfd2] at hfd
                have e161 : swI J 18 (u : Int) (c : Int) 161 = J 161 := swI_a (by decide)
                rw [e161] at hfd
                have hd := mAd_deg hA1 hs
                have hnb : ∀ k' : Nat, (k' : Int) < J 161 (10 * (s : Int)).toNat → 0 ≤ J 161 (((10 * (s : Int)) + 1) + (k' : Int)).toNat ∧ J 161 (((10 * (s : Int)) + 1) + (k' : Int)).toNat < 12 := fun k' hk' => by
                  have := mAd_nb hA1 hs hk'; omega
                by_cases hfr : fdS adj k s 0 (swG adj g k u (c : Int)) = true
                · have hPt : P (4 * u + c) = true := by rw [hPm, hcan, hfr]; rfl
                  refine ⟨swI J 18 (u : Int) (c : Int), w_X12_isFreed_51 hl0 (fun _ _ h => absurd h (hfd.mpr hfr)) (fun _ h => absurd (hmc.mpr hcan) h) (fun h => absurd h (by omega)) (fun _ _ _ => ?_) (v3 := fun _ _ => hA1.2.2.1) (v4 := fun _ _ => hA1.2.2.2.1) (v5 := fun _ _ => by omega) (v7 := fun _ _ => by omega) (v8 := fun _ _ => hnb), hF2⟩
                  rw [hR, hS, anyB_yes (show 4 * u + c < 4 * k by omega) hPt]; rfl
                · have hPt : P (4 * u + c) = false := by rw [hPm, Bool.eq_false_iff.mpr hfr, Bool.and_false]
                  obtain ⟨J', hL, hF'⟩ := ihq (c + 1) (swI J 18 (u : Int) (c : Int)) (by omega) (fun m hm => by
                    by_cases em : m = 4 * u + c
                    · rw [em]; exact hPt
                    · exact hno m (by omega)) hF2 (fun i hi => by rw [swI_a (by decide)]; exact hsp i hi)
                  exact ⟨J', w_X12_isFreed_51 hl0 (fun _ _ _ => hL) (fun _ h => absurd (hmc.mpr hcan) h) (fun h => absurd h (by omega)) (fun _ _ h => absurd (hfd.mp h) hfr) (e1 := fun _ _ h => absurd (hfd.mp h) hfr) (v3 := fun _ _ => hA1.2.2.1) (v4 := fun _ _ => hA1.2.2.2.1) (v5 := fun _ _ => by omega) (v7 := fun _ _ => by omega) (v8 := fun _ _ => hnb), hF'⟩
              · have hPt : P (4 * u + c) = false := by rw [hPm, Bool.eq_false_iff.mpr hcan, Bool.false_and]
                obtain ⟨J', hL, hF'⟩ := ihq (c + 1) J (by omega) (fun m hm => by
                  by_cases em : m = 4 * u + c
                  · rw [em]; exact hPt
                  · exact hno m (by omega)) hF hsp
                exact ⟨J', w_X12_isFreed_51 hl0 (fun _ h => absurd (hmc.mp h) hcan) (fun _ _ => hL) (fun h => absurd h (by omega)) (fun _ h => absurd (hmc.mp h) hcan) (e1 := fun _ h => absurd (hmc.mp h) hcan) (v3 := fun _ h => absurd (hmc.mp h) hcan) (v4 := fun _ h => absurd (hmc.mp h) hcan) (v5 := fun _ h => absurd (hmc.mp h) hcan) (v6 := fun _ h => absurd (hmc.mp h) hcan) (v7 := fun _ h => absurd (hmc.mp h) hcan) (v8 := fun _ h => absurd (hmc.mp h) hcan), hF'⟩
            | succ t iht =>
              intro k J hk hF hsp hrow
              have h15J : J 156 15 = (n : Int) := by rw [hF.1 156 (by decide) (by decide)]; exact h15
              obtain ⟨J', hL, hF'⟩ := iht (k + 1) (up2 J 178 ((18 + (k : Int)).toNat) (J 182 (k : Int).toNat)) (by omega) ⟨fun a h1 h2 => by
                funext j; rw [up2_a _ h1, hF.1 a h1 h2], fun i hi => by rw [up2_k _ (by omega)]; exact hF.2 i hi⟩ (fun i hi => by rw [up2_a _ (by decide)]; exact hsp i hi) (fun i hi => by
                rw [gR_18]
                by_cases e : i = k
                · rw [e, show ((18 : Int) + (k : Int)).toNat = 18 + k by omega, up2_same, Int.toNat_natCast]; exact hsp k (by omega)
                · rw [up2_k _ (by omega), ← gR_18 J i]; exact hrow i (by omega))
              exact ⟨J', w_X12_isFreed_51 hl0 (fun h => absurd h (by omega)) (fun h => absurd h (by omega)) (fun _ => hL) (fun h => absurd h (by omega)) (v3 := fun h => absurd h (by omega)) (v4 := fun h => absurd h (by omega)) (v7 := fun h => absurd h (by omega)) (v8 := fun h => absurd h (by omega)), hF'⟩
          obtain ⟨J', hL, hF'⟩ := rest n 0 J (by omega) hF hsp (fun i hi => absurd hi (by omega))
          exact ⟨J', w_X12_isFreed_43 hl0 (fun h => absurd h (by omega)) (fun _ => hL), hF'⟩
      obtain ⟨J', hL, hF'⟩ := inner 4 0 J rfl (fun m hm => hno m (by omega)) hF hsp
      exact ⟨J', w_X12_isFreed_33 hl0 (fun _ => hL) (fun h => absurd h (by omega)), hF'⟩
  -- the row is put by
  have cpy : ∀ (t k : Nat) (J : Nat → Nat → Int), k + t = n → (∀ a, a ≠ 182 → J a = I a) → (∀ i, i < k → J 182 i = g i) → ∃ J', L_X12_isFreed_2 d 156 (s : Int) (k : Int) J S R (J', S) ∧ ifF I J' := by
    intro t
    induction t with
    | zero =>
      intro k J hk hF hsp
      have h15J : J 156 15 = (n : Int) := by rw [hF 156 (by decide)]; exact h15
      obtain ⟨J', hL, hF'⟩ := outer n 0 J (by omega) (fun m hm => absurd hm (by omega)) ⟨fun a _ h2 => hF a h2, fun i _ => by rw [hF 178 (by decide)]⟩ (fun i hi => hsp i (by omega))
      exact ⟨J', w_X12_isFreed_2 hl0 (fun _ => hL) (fun h => absurd h (by omega)), hF'⟩
    | succ t iht =>
      intro k J hk hF hsp
      have h15J : J 156 15 = (n : Int) := by rw [hF 156 (by decide)]; exact h15
      obtain ⟨J', hL, hF'⟩ := iht (k + 1) (up2 J 182 ((k : Int).toNat) (J 178 (18 + (k : Int)).toNat)) (by omega) (fun a h1 => by funext j; rw [up2_a _ h1, hF a h1]) (fun i hi => by
        rw [Int.toNat_natCast]
        by_cases e : i = k
        · rw [e, up2_same, hF 178 (by decide)]; exact hg k (by omega)
        · rw [up2_k _ (by omega)]; exact hsp i (by omega))
      exact ⟨J', w_X12_isFreed_2 hl0 (fun h => absurd h (by omega)) (fun _ => hL), hF'⟩
  obtain ⟨J', hL, hF'⟩ := cpy n 0 I (by omega) (fun _ _ => rfl) (fun i hi => absurd hi (by omega))
  exact ⟨J', w_X12_isFreed_0 hl0 hL, hF'⟩
end
end
