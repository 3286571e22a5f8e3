/-! ===== charges and pieces at a spot: both sides alike; the first calls ===== -/
noncomputable section
section
variable {d : Nat} {I J K X Y Z : Nat → Nat → Int} {S S' : PS} {c T U n P R N A a2 p s : Nat} {dg b : Int}
theorem hlB_cg {hub m dg : Int} {sp sp' f f' : Nat → Int} (hd : 1 ≤ dg) (h1 : ∀ k : Nat, (k : Int) < m → sp k = sp' k) (h2 : ∀ k : Nat, (k : Int) < dg → f k = f' k) : hlB hub m dg sp f = hlB hub m dg sp' f' := by
  unfold hlB
  congr 1
  refine anyB_congr (fun fr _ => ?_)
  unfold hlP
  have e : ∀ q : Int, f (q % dg).toNat = f' (q % dg).toNat := fun q => by
    have a1 := Int.emod_nonneg q (show dg ≠ 0 by omega)
    have a2 := Int.emod_lt_of_pos q (show 0 < dg by omega)
    exact h2 _ (by omega)
  congr 1
  · exact allB_congr (fun k hk => by rw [e, h1 k (by omega)])
  · exact allB_congr (fun k hk => by rw [e, h1 k (by omega)])
theorem he_eq {E : Nat → Int} (h : pcR X A (Z 159) E p) (hd : 1 ≤ dg) (hrow : ∀ k : Nat, (k : Int) < dg → X a2 k = Z 177 k) : heC X A a2 dg = hdM Z (p : Int) dg := by
  obtain ⟨H, s, r, cc, g1, g2, g3, g4, _⟩ := h
  rw [heC_hl hd, hdM_hl]
  have i0 : (20 * (p : Int)).toNat = 20 * p := by omega
  have i1 : (20 * (p : Int) + 1).toNat = 20 * p + 1 := by omega
  rw [i0, i1, g2.1, g2.2.1, g3.1, g3.2.1]
  refine hlB_cg hd (fun k hk => ?_) hrow
  rw [show (20 * (p : Int) + 2 + (k : Int)).toNat = 20 * p + 2 + k by omega, (g4 k (by omega)).2]
theorem ho_eq (h : ∀ p, p < P → pcR X (T + 7 + 9 * p) (Z 159) (Z 165) p) (hd : 1 ≤ dg) (hrow : ∀ k : Nat, (k : Int) < dg → X a2 k = Z 177 k) : hoC X T a2 dg P = hoM Z dg P := by
  rw [hoC_bt, hoM_bt]
  exact btN_congr (fun p hp => he_eq (h p hp) hd hrow)
theorem rl_IV (h : IV c T U n P R N I S) (e0 : X (T + 3) = I (T + 3)) (e1 : X 129 = I 129) (e2 : Z 160 = I 160) (e3 : ∀ k, k < 18 → Z 178 k = I 178 k) : rlR X Z T R 0 := by
  have hR := IV_R h
  have hA := IV_A h
  refine ⟨fun r hr => ?_, fun r hr => ?_⟩
  · have := hR.2.2.2 r hr
    unfold ruR at this ⊢
    rw [e0, e2]; exact this
  · have := hR.1
    rw [e1, show (0 + 12 + (r : Int)).toNat = 12 + r by omega, e3 _ (by omega)]
    exact (hA.2.1 r hr).1
/-- rows round a spot -/
theorem ro_eq (h : IV c T U n P R N I S) (hs : s < N) (e1 : Y 161 = I 161) : ∃ g : Nat, (3 ≤ g ∧ g ≤ 9) ∧ I (T + 4) s = (g : Int) ∧ I 161 (10 * s) = (g : Int) ∧ ∀ k : Nat, k < g → roI I T 152 (s : Int) 152 k = lnI Y (s : Int) 177 k := by
  have hS := IV_S h
  obtain ⟨g, g1, g2, g3, g4, _⟩ := hS.2.2.2.1 s hs
  refine ⟨g, g1, g2, g3, fun k hk => ?_⟩
  unfold roI lnI
  have i1 : (10 * (s : Int)).toNat = 10 * s := by omega
  rw [up1_same, up1_same, e1, i1, g3, Int.toNat_natCast, Int.toNat_natCast, g2, Int.toNat_natCast, upTo_in (by omega), upTo_in (by omega)]
  have i2 : ((s : Int) * 9 + (k : Int)).toNat = 9 * s + k := by omega
  have i3 : (10 * (s : Int) + 1 + (k : Int)).toNat = 10 * s + 1 + k := by omega
  rw [i2, i3, (g4 k hk).1]
  have hv := hS.2.2.2.2 s k hs (by omega)
  obtain ⟨v, ev⟩ : ∃ v : Nat, I 161 (10 * s + 1 + k) = (v : Int) := ⟨(I 161 (10 * s + 1 + k)).toNat, by have := (g4 k hk).2; omega⟩
  rw [ev] at hv ⊢
  obtain ⟨g', _, b2, b3, _⟩ := hS.2.2.2.1 v (by omega)
  rw [Int.toNat_natCast, show (10 * (v : Int)).toNat = 10 * v by omega, b2, b3]
/-- the reference's heap is as the class's was -/
def yQ (I Y : Nat → Nat → Int) : Prop := Y 159 = I 159 ∧ Y 160 = I 160 ∧ Y 161 = I 161 ∧ Y 165 = I 165 ∧ Y 178 = I 178 ∧ (∀ k, cr k → Y 156 k = I 156 k)
theorem yQ_of (h : ∀ a, a ≠ 191 → Y a = J a) (e : ∀ a, 155 ≤ a → J a = I a) : yQ I Y := ⟨by rw [h 159 (by decide), e 159 (by decide)], by rw [h 160 (by decide), e 160 (by decide)], by rw [h 161 (by decide), e 161 (by decide)], by rw [h 165 (by decide), e 165 (by decide)], by rw [h 178 (by decide), e 178 (by decide)], fun k _ => by rw [h 156 (by decide), e 156 (by decide)]⟩
theorem bh_spot (h : IV c T U n P R N I S) (hs : s < N) (hY : yQ I Y) : bhC (roI I T 152 (s : Int)) (T + 2) 152 129 ((roI I T 152 (s : Int)) (T + 4) (s : Int).toNat) ((roI I T 152 (s : Int)) (T + 2) 0).toNat = chB (lnI (up2 Y 156 0 0) (s : Int)) 0 (Y 161 (10 * (s : Int)).toNat) (Y 161 (10 * (s : Int)).toNat).toNat := by
  have hL := (IV_L h).2.2
  obtain ⟨y1, y2, y3, y4, y5, y6⟩ := hY
  have z1 : (up2 Y 156 0 0) 161 = I 161 := by rw [← y3]; exact funext (fun j => up2_a _ (by decide))
  obtain ⟨g, g1, g2, g3, g4⟩ := ro_eq (Y := up2 Y 156 0 0) h hs z1
  have ra : ∀ a, a ≠ 152 → roI I T 152 (s : Int) a = I a := fun a ha => up1_o _ ha
  have za : ∀ a, a ≠ 177 → a ≠ 156 → lnI (up2 Y 156 0 0) (s : Int) a = Y a := fun a h1 h2 => by
    unfold lnI
    rw [up1_o _ h1]
    exact funext (fun j => up2_a _ h2)
  have z14 : lnI (up2 Y 156 0 0) (s : Int) 156 14 = (R : Int) := by
    unfold lnI
    rw [up1_o _ (by decide), up2_k _ (by decide), y6 14 (by unfold cr; omega)]
    exact (IV_R h).2.2.1
  rw [ra (T + 4) (by omega), ra (T + 2) (by omega), Int.toNat_natCast, g2, (IV_R h).2.1, Int.toNat_natCast, y3, show (10 * (s : Int)).toNat = 10 * s by omega, g3]
  exact bh_eq (rl_IV h (ra (T + 3) (by omega)) (ra 129 (by omega)) (by rw [za 160 (by decide) (by decide)]; exact y2) (fun k _ => by rw [za 178 (by decide) (by decide), y5])) z14 (by omega) (fun k hk => g4 k (by omega))
theorem ho_spot (h : IV c T U n P R N I S) (hs : s < N) (hY : yQ I Y) : hoC (roI I T 152 (s : Int)) T 152 ((roI I T 152 (s : Int)) (T + 4) (s : Int).toNat) ((roI I T 152 (s : Int)) T 1).toNat = hoM (lnI (up2 Y 156 0 0) (s : Int)) (Y 161 (10 * (s : Int)).toNat) (Y 156 13).toNat := by
  have hL := (IV_L h).2.2
  obtain ⟨y1, y2, y3, y4, y5, y6⟩ := hY
  have z1 : (up2 Y 156 0 0) 161 = I 161 := by rw [← y3]; exact funext (fun j => up2_a _ (by decide))
  obtain ⟨g, g1, g2, g3, g4⟩ := ro_eq (Y := up2 Y 156 0 0) h hs z1
  have hP := IV_P h
  have ra : ∀ a, a ≠ 152 → roI I T 152 (s : Int) a = I a := fun a ha => up1_o _ ha
  have za : ∀ a, a ≠ 177 → a ≠ 156 → lnI (up2 Y 156 0 0) (s : Int) a = Y a := fun a h1 h2 => by
    unfold lnI
    rw [up1_o _ h1]
    exact funext (fun j => up2_a _ h2)
  rw [ra (T + 4) (by omega), ra T (by omega), Int.toNat_natCast, g2, hP.2.1, Int.toNat_natCast, y3, show (10 * (s : Int)).toNat = 10 * s by omega, g3, y6 13 (by unfold cr; omega), hP.2.2.1, Int.toNat_natCast]
  have := hP.1
  refine ho_eq (fun p hp => ?_) (by omega) (fun k hk => g4 k (by omega))
  rw [za 159 (by decide) (by decide), za 165 (by decide) (by decide), y1, y4]
  exact pc_frame (hP.2.2.2 p hp).1 (fun k _ => by rw [ra _ (by omega)]) (ra _ (by omega)) (ra _ (by omega)) (ra _ (by omega)) (fun _ _ _ => rfl) (fun _ _ _ => rfl)
theorem fR_ro {z : Int} (hT : (T = 34 ∧ U = 77) ∨ (T = 77 ∧ U = 34)) : fR U I (roI I T 152 z) := fR_scr (fun a ha => up1_o _ (fun e => ha (by unfold scr; omega)))
theorem fR_ln {z : Int} : fR U I (lnI I z) := fR_scr (fun a ha => up1_o _ (fun e => ha (by unfold scr; omega)))
theorem ecN_1 : ecN 1 ≠ 0 := by decide
theorem ecN_0 : ecN 0 ≠ 0 := by decide
theorem ecR_2 : ecR 2 ≠ 0 := by decide
theorem ecR_1 : ecR 1 ≠ 0 := by decide
theorem ecI_1 : ecI 1 ≠ 0 := by decide
theorem ecA_0 : ecA 0 ≠ 0 := by decide
theorem pu_fault (h : IV c T U n P R N I S) : outC c mX11_fault mX12_fault ecZ [] I S :=
  mk_ok0 h (Ca.deep (c_X11_fault (d := 0) (IV_L h).1) (by omega)) fR_refl (fun Y hY hYJ => ⟨up2 Y 156 0 0, by
    have e : I 31 15 = Y 156 4 := by rw [← hYJ 31 (by decide)]; exact hY.2.2.1.1
    rw [e]
    exact Ca.deep (c_X12_fault (d := 0) (IV_L hY).2.1) (by omega), up2_same _ _ _ _, fR_0⟩)
/-- what the class's contracts ask -/
theorem fc_IV (h : IV c T U n P R N I S) : (P ≤ 4 ∧ R ≤ 6 ∧ N ≤ 12) ∧ (I T 1 = (P : Int) ∧ I (T + 2) 0 = (R : Int) ∧ I T 6 = (N : Int)) ∧ (∀ x : Int, 0 ≤ x → x < (N : Int) → (1 ≤ I (T + 4) x.toNat ∧ I (T + 4) x.toNat ≤ 9) ∧ ∀ k : Nat, (k : Int) < I (T + 4) x.toNat → 0 ≤ I (T + 6) (x * 9 + (k : Int)).toNat ∧ I (T + 6) (x * 9 + (k : Int)).toNat < 12) ∧ (∀ k : Nat, (k : Int) < (R : Int) → 0 ≤ I 129 k ∧ I 129 k ≤ 99) ∧ ∀ p : Nat, (p : Int) < (P : Int) → 0 ≤ I (T + 7 + 9 * p) 1 ∧ I (T + 7 + 9 * p) 1 ≤ 7 := by
  have hS := IV_S h
  have hP := IV_P h
  have hR := IV_R h
  have hA := IV_A h
  refine ⟨⟨hP.1, hR.1, hS.1⟩, ⟨hP.2.1, hR.2.1, hS.2.1⟩, fun x h0 h1 => ?_, fun k hk => ?_, fun p hp => ?_⟩
  · obtain ⟨g, g1, g2, _, g4, _⟩ := hS.2.2.2.1 x.toNat (by omega)
    refine ⟨by omega, fun k hk => ?_⟩
    rw [show (x * 9 + (k : Int)).toNat = 9 * x.toNat + k by omega, (g4 k (by omega)).1]
    exact (g4 k (by omega)).2
  · have : I 129 k = I 178 (12 + k) ∧ 1 ≤ I 178 (12 + k) ∧ I 178 (12 + k) ≤ 99 := hA.2.1 k (by omega)
    omega
  · obtain ⟨H, s, r, cc, g1, g2, _⟩ := (hP.2.2.2 p (by omega)).1
    omega
/-- what the reference's ask -/
theorem fm_IV (h : IV c T U n P R N I S) : (P ≤ 4 ∧ R ≤ 6 ∧ N ≤ 12) ∧ (I 156 13 = (P : Int) ∧ I 156 14 = (R : Int) ∧ I 156 15 = (N : Int)) ∧ (∀ x : Int, 0 ≤ x → x < (N : Int) → (1 ≤ I 161 (10 * x).toNat ∧ I 161 (10 * x).toNat ≤ 9) ∧ ∀ k : Nat, (k : Int) < I 161 (10 * x).toNat → 0 ≤ I 161 (((10 * x) + 1) + (k : Int)).toNat ∧ I 161 (((10 * x) + 1) + (k : Int)).toNat < 12) ∧ (∀ k : Nat, (k : Int) < (R : Int) → 0 ≤ I 178 ((0 : Int) + 12 + (k : Int)).toNat ∧ I 178 ((0 : Int) + 12 + (k : Int)).toNat ≤ 99) ∧ ∀ p : Nat, (p : Int) < (P : Int) → (0 ≤ I 159 ((20 * (p : Int)) + 1).toNat ∧ I 159 ((20 * (p : Int)) + 1).toNat ≤ 7) ∧ I 159 ((20 * (p : Int)) + 1).toNat ≤ I 159 (20 * (p : Int)).toNat := by
  have hS := IV_S h
  have hP := IV_P h
  have hR := IV_R h
  have hA := IV_A h
  refine ⟨⟨hP.1, hR.1, hS.1⟩, ⟨hP.2.2.1, hR.2.2.1, hS.2.2.1⟩, fun x h0 h1 => (iS_mSp hS).2 x h0 (by rw [hS.2.2.1]; exact h1), fun k hk => ?_, fun p hp => ?_⟩
  · have : I 129 k = I 178 (12 + k) ∧ 1 ≤ I 178 (12 + k) ∧ I 178 (12 + k) ≤ 99 := hA.2.1 k (by omega)
    rw [show ((0 : Int) + 12 + (k : Int)).toNat = 12 + k by omega]
    omega
  · obtain ⟨H, s, r, cc, g1, g2, g3, _⟩ := (hP.2.2.2 p (by omega)).1
    rw [show (20 * (p : Int)).toNat = 20 * p by omega, show (20 * (p : Int) + 1).toNat = 20 * p + 1 by omega]
    omega
end
end
