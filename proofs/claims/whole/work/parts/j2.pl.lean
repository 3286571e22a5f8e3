/-! ===== a plan, the reference's, whole ===== -/
noncomputable section
section
variable {d : Nat} {I : Nat → Nat → Int} {S : PS} {m n : Nat} {adj : Nat → Nat → Bool} {t : Nat → Int}
def pmZ (I : Nat → Nat → Int) (n : Nat) : Nat → Nat → Int := up2 (up2 (up2 (up2 (up2 (up2 (up2 (up2 (up2 (up2 (up2 I 156 0 0) 156 2 0) 156 3 0) 156 4 (-1)) 156 55 (-1)) 156 6 (n : Int)) 156 7 0) 156 51 0) 156 50 0) 186 2 0) 186 3 0
def pmK (k : Nat) : Prop := k = 0 ∨ k = 2 ∨ k = 3 ∨ k = 4 ∨ k = 6 ∨ gsK k ∨ k = 47 ∨ k = 48 ∨ k = 49 ∨ k = 50 ∨ k = 51 ∨ k = 55
theorem pl_M {ev : Int} (hl0 : LyX12 S) (ht : I 157 = t) (hb : ∀ k, 0 ≤ t k ∧ t k ≤ 255) (hn : n ≤ 700) (hnt : (n : Int) ≤ I 156 2) (hA : mAd I m adj) (hok : rOk (gR I 0) m) (h48 : I 156 48 = ev) (hev : 0 ≤ ev ∧ ev ≤ 900000) : ∃ J, Ca (d + 8) mX12_plan [vR (some (22, 0, 156)), vI (n : Int)] (I, S) (.inl (some (vI (plR t n adj m 701 0 (pl0 (gR I 0) ev (I 156 49)) 0).2.2))) (J, S) ∧ (∀ a, a ≠ 178 → a ≠ 184 → a ≠ 185 → a ≠ 186 → a ≠ 156 → J a = I a) ∧ (∀ i, i < 18 → J 178 i = I 178 i) ∧ (∀ k, ¬pmK k → J 156 k = I 156 k) ∧ J 156 0 = 0 ∧ J 156 2 = 0 ∧ rmP J J m (I 156 4) (plR t n adj m 701 0 (pl0 (gR I 0) ev (I 156 49)) 0) := by
  have hm12 := hA.2.1
  have za : ∀ a, a ≠ 156 → a ≠ 186 → pmZ I n a = I a := fun a h1 h2 => funext (fun k => by
    unfold pmZ
    rw [up2_a _ h2, up2_a _ h2, up2_a _ h1, up2_a _ h1, up2_a _ h1, up2_a _ h1, up2_a _ h1, up2_a _ h1, up2_a _ h1, up2_a _ h1, up2_a _ h1])
  have zk : ∀ k, ¬pmK k → pmZ I n 156 k = I 156 k := fun k hk => by
    unfold pmK at hk
    unfold pmZ
    have h7 : k ≠ 7 := fun e => hk (by unfold gsK; omega)
    rw [up2_a _ (by decide), up2_a _ (by decide), up2_k _ (by omega), up2_k _ (by omega), up2_k _ h7, up2_k _ (by omega), up2_k _ (by omega), up2_k _ (by omega), up2_k _ (by omega), up2_k _ (by omega), up2_k _ (by omega)]
  obtain ⟨Y, hY⟩ : ∃ Y, Y = trI (pmZ I n) := ⟨_, rfl⟩
  have ya : ∀ a, a ≠ 178 → Y a = pmZ I n a := fun a ha => by rw [hY]; exact trI_o _ ha
  have y50 : Y 156 50 = 0 := by rw [ya 156 (by decide)]; rfl
  have y48 : Y 156 48 = ev := by rw [ya 156 (by decide)]; exact h48
  have y186 : Y 186 2 = 0 := by rw [ya 186 (by decide)]; rfl
  have hls : lsI Y = up2 (up2 (up2 (up2 Y 185 0 ev) 156 48 (ev + 1)) 156 50 1) 186 2 1 := by
    unfold lsI
    rw [y50, y48, y186, if_neg (by decide), if_neg (by decide)]
    rfl
  obtain ⟨Z, hZ⟩ : ∃ Z, Z = lsI Y := ⟨_, rfl⟩
  have zza : ∀ a, a ≠ 156 → a ≠ 185 → a ≠ 186 → Z a = Y a := fun a h1 h2 h3 => by
    rw [hZ, hls]
    exact funext (fun k => by rw [up2_a _ h3, up2_a _ h1, up2_a _ h1, up2_a _ h2])
  have zzk : ∀ k, k ≠ 48 → k ≠ 50 → Z 156 k = pmZ I n 156 k := fun k h1 h2 => by
    rw [hZ, hls, up2_a _ (by decide), up2_k _ h2, up2_k _ h1, up2_a _ (by decide), ya 156 (by decide)]
  have z178 : ∀ i, i < 18 → Z 178 i = I 178 i ∧ Z 178 (18 + i) = I 178 i := fun i hi => by
    rw [zza 178 (by decide) (by decide) (by decide), hY, trI_lo _ i hi, trI_hi _ i hi, za 178 (by decide) (by decide)]
    exact ⟨rfl, rfl⟩
  have hml : mlR Z m (pl0 (gR I 0) ev (I 156 49)) := by
    refine ⟨fun i hi => ?_, by rw [hZ, hls]; rfl, fun j h1 hj => ?_, fun j hj => ?_, by rw [hZ, hls]; rfl, by rw [zzk 49 (by decide) (by decide)]; rfl, by rw [hZ, hls]; rfl⟩
    · rw [gR_18, (z178 i (by omega)).2]
      exact (gR_0 I i).symm
    · have hj : j < 1 := hj
      omega
    · have hj : j < 1 := hj
      obtain rfl : j = 0 := by omega
      rw [hZ, hls]; rfl
  have hAZ : mAd Z m adj := mAd_of hA (by rw [zzk 15 (by decide) (by decide)]; rfl) (by rw [zza 161 (by decide) (by decide) (by decide), ya 161 (by decide)]; exact za 161 (by decide) (by decide))
  have hrd : ∀ k, ¬(k = 48) → ¬(k = 50) → Z 156 k = pmZ I n 156 k := zzk
  obtain ⟨b1, b2, b3, b4⟩ := go_M (d := d + 6) (J := Z) (t := t) (n := n) (q := 0) hl0 (by rw [zza 157 (by decide) (by decide) (by decide), ya 157 (by decide), za 157 (by decide) (by decide)]; exact ht) hb (by rw [zzk 6 (by decide) (by decide)]; rfl) (by rw [zzk 7 (by decide) (by decide)]; rfl) hn (Nat.zero_le n)
  have gF : spF Z (gsI Z) := spF_156 b3 (fun k hk' => b4 k (fun e => hk' (by unfold stK; exact Or.inr (Or.inr (Or.inl e)))))
  obtain ⟨J, q1, q2⟩ := ml_P (d := d) (E0 := ev + 1) (x1 := (n : Int)) (x2 := I 156 4) (adj := adj) (m := m) hl0 hb hn (by omega) 701 0 0 (gsI Z) (pl0 (gR I 0) ev (I 156 49)) (Nat.zero_le n) (by omega) (Nat.le_refl 0) ⟨by rw [b3 157 (by decide), zza 157 (by decide) (by decide) (by decide), ya 157 (by decide), za 157 (by decide) (by decide)]; exact ht, b2, mAd_sp hAZ gF, by rw [b4 3 (by unfold gsK; omega), zzk 3 (by decide) (by decide)]; rfl, by rw [b4 55 (by unfold gsK; omega), zzk 55 (by decide) (by decide)]; rfl, rfl, rfl, mlR_of hml b3 (fun k hk' => b4 k (by unfold gsK; omega))⟩ (pl0_ok hok hev.1) (by show ev + 1 ≤ ev + 1 + ((0 : Nat) : Int); omega) (by rw [b4 4 (by unfold gsK; omega), zzk 4 (by decide) (by decide)]; rfl) (by rw [b4 51 (by unfold gsK; omega), zzk 51 (by decide) (by decide)]; rfl) (by rw [b3 186 (by decide), hZ, hls, up2_k _ (by decide)]; show Y 186 3 = 0; rw [ya 186 (by decide)]; rfl)
  have fk : ∀ k, ¬stK k → k ≠ 47 → k ≠ 48 → k ≠ 50 → J 156 k = pmZ I n 156 k := fun k hk h47 h48 h50 => by
    rw [q2.1.2.2 k hk h47, b4 k (fun e => hk (by unfold stK; exact Or.inr (Or.inr (Or.inl e))))]
    exact zzk k h48 h50
  have eZ : lsI (trI (pmZ I n)) = Z := by rw [hZ, hY]
  unfold pmZ at eZ
  refine ⟨J, w_X12_plan_0 (J1 := gsI Z) hl0 (fun _ => by rw [eZ]; exact b1) (fun _ => q1) (fun w => absurd ⟨by omega, hnt⟩ w) (e1 := fun w => absurd ⟨by omega, hnt⟩ w) (v1 := fun _ => by omega), fun a h1 h2 h3 h4 h5 => ?_, fun i hi => ?_, fun k hk => ?_, ?_, ?_, ⟨⟨fun _ _ _ _ _ _ => rfl, fun _ _ => rfl, fun _ _ _ => rfl⟩, q2.2⟩⟩
  · rw [q2.1.1 a h1 h2 h3 h4 h5, b3 a h5, zza a h5 h3 h4, ya a h1]
    exact za a h5 h4
  · rw [q2.1.2.1 i hi, b3 178 (by decide)]
    exact (z178 i hi).1
  · have hk2 : ¬stK k := fun e => hk (by unfold stK gsK at e; unfold pmK gsK; omega)
    rw [fk k hk2 (fun e => hk (by unfold pmK; omega)) (fun e => hk (by unfold pmK; omega)) (fun e => hk (by unfold pmK; omega))]
    exact zk k hk
  · rw [fk 0 (by unfold stK gsK; omega) (by decide) (by decide) (by decide)]; rfl
  · rw [fk 2 (by unfold stK gsK; omega) (by decide) (by decide) (by decide)]; rfl
end
end
