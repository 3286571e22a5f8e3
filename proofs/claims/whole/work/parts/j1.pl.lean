/-! ===== a plan, the reference's ===== -/
noncomputable section
section
variable {d : Nat} {I J K X : Nat → Nat → Int} {S : PS} {m n p q : Nat} {adj : Nat → Nat → Bool} {t : Nat → Int} {x : PT}
def pmF (X J : Nat → Nat → Int) : Prop := (∀ a, a ≠ 178 → a ≠ 184 → a ≠ 185 → a ≠ 186 → a ≠ 156 → J a = X a) ∧ (∀ i, i < 18 → J 178 i = X 178 i) ∧ ∀ k, ¬stK k → k ≠ 47 → J 156 k = X 156 k
/-- what a plan leaves in the reference -/
def rmP (X J : Nat → Nat → Int) (m : Nat) (x2 : Int) (R : Int × PT × Int) : Prop := pmF X J ∧ J 186 0 = R.1 ∧ J 186 1 = ctG R.2.1.1 m ∧ J 186 2 = R.2.1.2.2.2.2.2.2 ∧ J 186 3 = plO R.2.1.2.2.2.1 R.2.1.2.1 0 ∧ J 156 48 = R.2.1.2.2.2.2.1 ∧ J 156 49 = R.2.1.2.2.2.1 0 ∧ J 156 47 = 1 ∧ J 156 4 = x2
theorem to_F : (∀ a, a ≠ 178 → a ≠ 156 → toI X a = X a) ∧ (∀ i, i < 18 → toI X 178 i = X 178 i) ∧ (∀ k, k ≠ 49 → k ≠ 50 → toI X 156 k = X 156 k) ∧ toI X 156 50 = X 156 50 - 1 ∧ toI X 156 49 = X 185 (X 156 50 - 1).toNat := by
  unfold toI
  split
  · refine ⟨fun a h1 h2 => ?_, fun i hi => ?_, fun k h1 h2 => ?_, rfl, rfl⟩
    · rw [up1_o _ h1]
      exact funext (fun k => by rw [up2_a _ h2, up2_a _ h2])
    · rw [up1_same, upTo_out (by omega)]
    · show up2 (up2 X 156 50 (X 156 50 - 1)) 156 49 (X 185 (X 156 50 - 1).toNat) 156 k = X 156 k
      rw [up2_k _ h1, up2_k _ h2]
  · refine ⟨fun a h1 h2 => funext (fun k => by rw [up2_a _ h2, up2_a _ h2]), fun i hi => rfl, fun k h1 h2 => by rw [up2_k _ h1, up2_k _ h2], rfl, rfl⟩
theorem tm_M {no : Nat → Int} {x1 x2 : Int} (hl0 : LyX12 S) : ∀ (j i : Nat) (Y : Nat → Nat → Int) (v : Int), i + j ≤ 8 → Y 156 50 = (j : Int) → (∀ k, k < j → Y 185 k = no k ∧ 0 ≤ no k ∧ no k ≤ 2000000) → Y 186 3 = v → (0 ≤ v ∧ v < 10 ^ i) → (j = 0 → Y 156 49 = no 0) → ∃ J, L_X12_plan_161 d 156 x1 x2 Y S (Y 156 51) (J, S) ∧ (∀ a, a ≠ 178 → a ≠ 186 → a ≠ 156 → J a = Y a) ∧ (∀ i, i < 18 → J 178 i = Y 178 i) ∧ (∀ k, k ≠ 3 → J 186 k = Y 186 k) ∧ J 186 3 = plO no j v ∧ J 156 49 = no 0 ∧ J 156 47 = 1 ∧ J 156 4 = x2 ∧ ∀ k, k ≠ 49 → k ≠ 50 → k ≠ 47 → k ≠ 4 → J 156 k = Y 156 k := by
  intro j
  induction j with
  | zero =>
    intro i Y v hi h50 hno h3 hv h49
    refine ⟨up2 (up2 Y 156 4 x2) 156 47 1, w_X12_plan_161 hl0 (fun w => absurd w (by omega)) (fun _ => rfl) (e1 := fun _ => rfl) (v1 := fun w => absurd w (by omega)) (v2 := fun w => absurd w (by omega)) (v3 := fun w => absurd w (by omega)) (v4 := fun w => absurd w (by omega)), fun a _ _ h5 => funext (fun k => by rw [up2_a _ h5, up2_a _ h5]), fun _ _ => rfl, fun _ _ => rfl, h3, h49 rfl, rfl, rfl, fun k h1 h2 h3 h4 => by rw [up2_k _ h3, up2_k _ h4]⟩
  | succ j ih =>
    intro i Y v hi h50 hno h3 hv h49
    obtain ⟨f1, f2, f3, f4, f5⟩ := to_F (X := Y)
    have hnj := hno j (by omega)
    have e49 : toI Y 156 49 = no j := by rw [f5, h50, show (((j + 1 : Nat) : Int) - 1).toNat = j by omega]; exact hnj.1
    have e3 : toI Y 186 3 = v := by rw [f1 186 (by decide) (by decide)]; exact h3
    have hp10 : (10 : Int) ^ (i + 1) = 10 ^ i * 10 := Int.pow_succ 10 i
    have hpb : (10 : Int) ^ i ≤ 10000000 := by
      have : i = 0 ∨ i = 1 ∨ i = 2 ∨ i = 3 ∨ i = 4 ∨ i = 5 ∨ i = 6 ∨ i = 7 := by omega
      rcases this with rfl | rfl | rfl | rfl | rfl | rfl | rfl | rfl <;> decide
    have hv2 : 0 ≤ v ∧ v < 10000000 := ⟨hv.1, Int.lt_of_lt_of_le hv.2 hpb⟩
    have hv3 : 10 * v + no j % 10 < 10 ^ (i + 1) := by
      rw [hp10]
      generalize (10 : Int) ^ i = P at *
      omega
    obtain ⟨J, q1, q2, q3, q4, q5, q6, q7, q8, q9⟩ := ih (i + 1) (up2 (toI Y) 186 3 (10 * v + no j % 10)) (10 * v + no j % 10) (by omega) (by rw [up2_a _ (by decide), f4, h50]; omega) (fun k hk => by rw [up2_a _ (by decide), f1 185 (by decide) (by decide)]; exact hno k (by omega)) (up2_same _ _ _ _) ⟨by omega, hv3⟩ (fun e => by rw [up2_a _ (by decide), e49, e])
    clear hv3 hp10 hpb hv
    have e51 : (up2 (toI Y) 186 3 (10 * v + no j % 10)) 156 51 = Y 156 51 := by rw [up2_a _ (by decide)]; exact f3 51 (by decide) (by decide)
    rw [e51] at q1
    refine ⟨J, w_X12_plan_161 hl0 (fun _ => by rw [e3, e49]; exact q1) (fun w => absurd w (by omega)) (e1 := fun w => absurd w (by omega)) (v1 := fun _ => by omega) (v2 := fun _ => by rw [e3]; omega) (v3 := fun _ => by rw [e49]; omega) (v4 := fun _ => by rw [e3, e49]; omega), fun a h1 h2 h5 => ?_, fun i hi => ?_, fun k hk => ?_, q5, q6, q7, q8, fun k h1 h2 h3 h4 => ?_⟩
    · rw [q2 a h1 h2 h5, ← f1 a h1 h5]
      exact funext (fun k => up2_a _ h2)
    · rw [q3 i hi, up2_a _ (by decide)]
      exact f2 i hi
    · rw [q4 k hk, up2_k _ hk, f1 186 (by decide) (by decide)]
    · rw [q9 k h1 h2 h3 h4, up2_a _ (by decide)]
      exact f3 k h1 h2
/-- the end of a plan -/
theorem fe_P {x1 x2 b st : Int} (hl0 : LyX12 S) (hm : mAd X m adj) (hc : mlR X m x) (ho : ptO m x) (hev : x.2.2.2.2.1 ≤ 1000000) (h3 : X 186 3 = 0) (hbk : (if X 156 55 = -1 then X 156 4 else X 156 55) = b) (hst : X 156 51 = st) (hex : ¬(X 156 3 = 0) ∨ X 156 8 = 0) : ∃ J, L_X12_plan_103 d 156 x1 x2 X S st (J, S) ∧ rmP X J m x2 (b, x, st) := by
  obtain ⟨g, ly, rw', no, ev, la, mo⟩ := x
  obtain ⟨c1, c2, c3, c4, c5, c6, c7⟩ := hc
  obtain ⟨o1, o2, o3, o4, o5⟩ := ho
  dsimp only at *
  have hn := hm.1
  have hn12 := hm.2.1
  obtain ⟨Y, hY⟩ : ∃ Y, Y = up2 (up2 X 186 0 b) 186 1 (ctG g m) := ⟨_, rfl⟩
  have ecn : cntP (up2 X 186 0 b) 18 ((X 156 15)).toNat = ctG g m := by
    rw [cntP_ct, hn, Int.toNat_natCast]
    refine ctG_cg (fun i hi => ?_)
    rw [← c1 i hi]
    unfold gR
    exact up2_a _ (by decide)
  have eY : up2 (up2 X 186 0 (if X 156 55 = (-1) then (X 156 4 : Int) else X 156 55)) 186 1 (cntP (up2 X 186 0 (if X 156 55 = (-1) then (X 156 4 : Int) else X 156 55)) 18 ((X 156 15)).toNat) = Y := by rw [hbk, ecn, hY]
  have y51 : Y 156 51 = st := by rw [hY]; exact hst
  obtain ⟨J, q1, q2, q3, q4, q5, q6, q7, q8, q9⟩ := tm_M (d := d) (S := S) (x1 := x1) (x2 := x2) (no := no) hl0 ly 0 Y 0 (by omega) (by rw [hY]; exact c2) (fun k hk => ⟨by rw [hY]; exact c4 k hk, by have := o4 k hk; omega⟩) (by rw [hY]; exact h3) (by decide) (fun e => by omega)
  rw [y51] at q1
  have ya : ∀ a, a ≠ 186 → Y a = X a := fun a ha => by rw [hY]; exact funext (fun k => by rw [up2_a _ ha, up2_a _ ha])
  have go : L_X12_plan_103 d 156 x1 x2 X S st (J, S) := by
    by_cases hg : X 156 3 = 0
    · have h8 := hex.resolve_left (fun w => w hg)
      exact w_X12_plan_103 (J1 := X) hl0 (fun w => absurd hg w) (fun _ _ => by rw [eY]; exact q1) (fun _ w => absurd h8 w) (fun _ w => absurd h8 w) (v1 := fun _ => by omega) (v2 := fun _ _ => by omega)
    · exact w_X12_plan_103 (J1 := X) hl0 (fun _ => by rw [eY]; exact q1) (fun w => absurd w hg) (fun w => absurd w hg) (fun w => absurd w hg) (v1 := fun _ => by omega) (v2 := fun _ _ => by omega)
  refine ⟨J, go, ⟨fun a h1 h2 h3 h4 h5 => ?_, fun i hi => ?_, fun k hk h47 => ?_⟩, ?_, ?_, ?_, q5, ?_, q6, q7, q8⟩
  · rw [q2 a h1 h4 h5]; exact ya a h4
  · rw [q3 i hi, ya 178 (by decide)]
  · rw [q9 k (fun e => hk (by unfold stK; omega)) (fun e => hk (by unfold stK; omega)) h47 (fun e => hk (by unfold stK; omega)), ya 156 (by decide)]
  · rw [q4 0 (by decide), hY, up2_k _ (by decide), up2_same]
  · rw [q4 1 (by decide), hY, up2_same]
  · rw [q4 2 (by decide), hY, up2_k _ (by decide), up2_k _ (by decide)]; exact c7
  · rw [q9 48 (by decide) (by decide) (by decide) (by decide), ya 156 (by decide)]; exact c5
theorem pmF_of (h : spF X J) (g : pmF J K) : pmF X K := ⟨fun a h1 h2 h3 h4 h5 => by rw [g.1 a h1 h2 h3 h4 h5]; exact h.1 a h1 h2 h3 h4 h5, fun i hi => by rw [g.2.1 i hi]; exact h.2.1 i hi, fun k hk h47 => by rw [g.2.2 k hk h47]; exact h.2.2.2 k hk⟩
theorem rmP_of {x2 : Int} {R : Int × PT × Int} (h : spF X J) (g : rmP J K m x2 R) : rmP X K m x2 R := ⟨pmF_of h g.1, g.2⟩
theorem ml_P {E0 x1 x2 : Int} (hl0 : LyX12 S) (hb : ∀ k, 0 ≤ t k ∧ t k ≤ 255) (hn : n ≤ 700) (hE : 0 ≤ E0 ∧ E0 + 700 ≤ 1000000) : ∀ (f p i : Nat) (X : Nat → Nat → Int) (x : PT), p ≤ n → n - p < f → i ≤ p → rdO t n adj m p x X X → ptO m x → x.2.2.2.2.1 ≤ E0 + (p : Int) → X 156 4 = -1 → X 156 51 = (i : Int) → X 186 3 = 0 → ∃ J, L_X12_plan_103 d 156 x1 x2 X S (plR t n adj m f p x (i : Int)).2.2 (J, S) ∧ rmP X J m x2 (plR t n adj m f p x (i : Int)) := by
  intro f
  induction f with
  | zero => intro p i X x hp hf; exact absurd hf (by omega)
  | succ f ih =>
    intro p i X x hp hf hi hr ho hev h4 h51 h3
    have ev0 : 0 ≤ x.2.2.2.2.1 := by
      have := ho.2.2.2.1 0 (by have := ho.2.1; omega)
      omega
    have hev1 : 0 ≤ x.2.2.2.2.1 ∧ x.2.2.2.2.1 ≤ 1000000 := by omega
    have u : plR t n adj m (f + 1) p x (i : Int) = if tkK t n p = 0 then (-1, x, (i : Int)) else match plN t n adj m p x with
      | .inl b => (b, x, (i : Int))
      | .inr (p', x') => plR t n adj m f p' x' ((i : Int) + 1) := by
      show (if tkK t n p = 0 then _ else _) = _
      split
      · rfl
      · cases plN t n adj m p x <;> rfl
    rw [u]
    obtain ⟨r1, r2, r3, r4, r5, r6, r7, r8⟩ := hr
    by_cases k0 : tkK t n p = 0
    · rw [if_pos k0]
      exact fe_P hl0 r3 r8 ho hev1.2 h3 (by rw [if_pos r5]; exact h4) h51 (Or.inr (r2.2.2.2.1.trans (msK_0.mpr k0)))
    · rw [if_neg k0]
      have e8 : X 156 8 ≠ 0 := fun w => k0 (msK_0.mp (r2.2.2.2.1.symm.trans w))
      obtain ⟨J1, s1, s2, s3⟩ := st_M (d := d + 1) hl0 hb hn hp ⟨r1, r2, r3, r4, r5, r6, r7, r8⟩ (by omega) ho hev1
      have j3 : J1 186 3 = 0 := by rw [s2.2.2.1 3 (by decide)]; exact h3
      cases hN : plN t n adj m p x with
      | inl b =>
        obtain ⟨e1, e2, e3, e4⟩ := s3.1 b hN
        obtain ⟨J, q1, q2⟩ := fe_P (d := d) (x1 := x1) (x2 := x2) (b := b) (st := (i : Int)) hl0 (mAd_sp r3 s2) e2 ho hev1.2 j3 e4 (by rw [e3]; exact h51) (Or.inl e1)
        exact ⟨J, w_X12_plan_103 (J1 := J1) hl0 (fun w => absurd r4 w) (fun _ w => absurd w e8) (fun _ _ => s1) (fun _ _ => q1) (v1 := fun w => absurd r4 w) (v2 := fun _ w => absurd w e8), rmP_of s2 q2⟩
      | inr r =>
        obtain ⟨p', x'⟩ := r
        obtain ⟨e1, e2, e3, e4, e5, e6⟩ := s3.2 p' x' hN
        obtain ⟨n1, n2, w, s, c, n3⟩ := plN_pos hp hN
        obtain ⟨o1, o2, o3⟩ := plF_ok ho n3
        obtain ⟨J, q1, q2⟩ := ih p' (i + 1) J1 x' n2 (by omega) (by omega) ⟨by rw [s2.1 157 (by decide) (by decide) (by decide) (by decide) (by decide)]; exact r1, e6, mAd_sp r3 s2, e1, e5, rfl, rfl, e2⟩ o1 (by omega) (by rw [e4]; exact h4) (by rw [e3, h51]; rfl) j3
        exact ⟨J, w_X12_plan_103 (J1 := J1) hl0 (fun w => absurd r4 w) (fun _ w => absurd w e8) (fun _ _ => s1) (fun _ _ => q1) (v1 := fun w => absurd r4 w) (v2 := fun _ w => absurd w e8), rmP_of s2 q2⟩
end
end
