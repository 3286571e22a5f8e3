/-! ===== calls that need a study: set ===== -/
noncomputable section
section
variable {d : Nat} {I J K X Y Z : Nat → Nat → Int} {S S' S1 : PS} {c T U n P R N A a2 p s r a : Nat} {dg b : Int}
/-- what a word of a set asks -/
def sV (I : Nat → Nat → Int) (x2 : Int) (j : Nat) : Bool := decide (((x2 ≠ 0) ∧ (((x2 ≠ 1) ∧ (I 170 j = 1)) ∨ ((x2 = 1) ∧ (I 171 j = (-1))))) ∨ ((x2 = 0) ∧ (I 169 j = 1)))
theorem wdq_loop {x2 : Int} {w n : Nat} {F : Nat → Int} (hl0 : LyX12 S) (hp : p < 4) (hw : w < 3) (hc : I 167 p = (n : Int)) (h96 : n ≤ 96) (hF : wdO F (fun i => sV I x2 (96 * p + i)) n) : ∀ (t k : Nat) (x4 : Int), k + t = 32 → isI x4 → (∀ i, i < 32 → bt x4 i = (decide (i < k) && bt (F w) i)) → L_X12_set_39 d 156 (p : Int) x2 (w : Int) x4 (k : Int) I S (F w) (I, S)
  | 0, k, x4, hk, h4, hb => by
    have e : x4 = F w := bt_ext h4 (hF w hw).1 (fun i hi => by rw [hb i hi, decide_eq_true (by omega), Bool.true_and])
    exact w_X12_set_39 hl0 (fun q => absurd q (by omega)) (fun _ => e) (r2 := fun q => absurd q (by omega)) (v3 := fun _ => by omega) (v4 := fun _ _ => by omega) (v5 := fun _ _ => by omega) (v6 := fun _ _ => by omega) (v7 := fun q => absurd q (by omega)) (v8 := fun q => absurd q (by omega)) (v9 := fun q => absurd q (by omega))
  | t + 1, k, x4, hk, h4, hb => by
    have hc' : I 167 ((p : Int)).toNat = (n : Int) := by rw [Int.toNat_natCast]; exact hc
    have hj : ∀ q : Nat, (((96 * (p : Int)) + (32 * (w : Int))) + (q : Int)).toNat = 96 * p + (32 * w + q) := fun q => by omega
    by_cases q : 32 * w + k < n
    · refine w_X12_set_39 hl0 (fun _ _ => ?_) (fun q => absurd q (by omega)) (r2 := fun _ q => by rw [hc'] at q; omega) (v3 := fun _ => by omega) (v4 := fun _ _ => by omega) (v5 := fun _ _ => by omega) (v6 := fun _ _ => by omega) (v7 := fun _ _ _ _ => by omega) (v8 := fun _ _ _ _ => by omega) (v9 := fun _ _ _ => by omega)
      refine wdq_loop hl0 hp hw hc h96 hF t (k + 1) _ (by omega) (isI_or _ _) (fun i hi => ?_)
      rw [hj k, bt_or, hb i hi]
      have hFk := (hF w hw).2 k (by omega)
      rw [decide_eq_true q, Bool.and_true] at hFk
      have hv : sV I x2 (96 * p + (32 * w + k)) = bt (F w) k := hFk.symm
      unfold sV at hv
      by_cases e : i = k
      · subst e
        rw [decide_eq_false (by omega), Bool.false_and, Bool.false_or, decide_eq_true (by omega), Bool.true_and, ← hv]
        by_cases g : ((x2 ≠ 0) ∧ (((x2 ≠ 1) ∧ (I 170 (96 * p + (32 * w + i)) = 1)) ∨ ((x2 = 1) ∧ (I 171 (96 * p + (32 * w + i)) = (-1))))) ∨ ((x2 = 0) ∧ (I 169 (96 * p + (32 * w + i)) = 1))
        · rw [if_neg (fun z => z g), decide_eq_true g, bt_bit (s := (i : Int)) (by omega), Int.toNat_natCast, decide_eq_true rfl]
        · rw [if_pos g, decide_eq_false g, bt_zero]
      · have g : bt (if ¬(((x2 ≠ 0) ∧ (((x2 ≠ 1) ∧ (I 170 (96 * p + (32 * w + k)) = 1)) ∨ ((x2 = 1) ∧ (I 171 (96 * p + (32 * w + k)) = (-1))))) ∨ ((x2 = 0) ∧ (I 169 (96 * p + (32 * w + k)) = 1))) then (0 : Int) else p_shl 1 (k : Int)) i = false := by
          split
          · exact bt_zero i
          · rw [bt_bit (s := (k : Int)) (by omega), Int.toNat_natCast, decide_eq_false e]
        rw [g, Bool.or_false, show decide (i < k + 1) = decide (i < k) from by
          by_cases z : i < k
          · rw [decide_eq_true z, decide_eq_true (by omega)]
          · rw [decide_eq_false z, decide_eq_false (by omega)]]
    · have e : x4 = F w := bt_ext h4 (hF w hw).1 (fun i hi => by
        rw [hb i hi, (hF w hw).2 i hi]
        by_cases z : i < k
        · rw [decide_eq_true z, Bool.true_and]
        · rw [decide_eq_false z, Bool.false_and, show decide (32 * w + i < n) = false from decide_eq_false (by omega), Bool.and_false])
      exact w_X12_set_39 hl0 (fun _ q' => absurd q' (by rw [hc']; omega)) (fun q => absurd q (by omega)) (r2 := fun _ _ => e) (v3 := fun _ => by omega) (v4 := fun _ _ => by omega) (v5 := fun _ _ => by omega) (v6 := fun _ _ => by omega) (v7 := fun _ q' => absurd q' (by rw [hc']; omega)) (v8 := fun _ q' => absurd q' (by rw [hc']; omega)) (v9 := fun _ q' => absurd q' (by rw [hc']; omega))
theorem set_N {x1 x2 x3 : Int} (hl0 : LyX12 S) (w : ¬((0 ≤ x1 ∧ x1 < I 156 13) ∧ (0 ≤ x2 ∧ x2 ≤ 2) ∧ (0 ≤ x3 ∧ x3 ≤ 2))) : Ca 2 mX12_set [vR (some (22, 0, 156)), vI x1, vI x2, vI x3] (I, S) (.inl (some (vI 0))) (up2 (up2 I 156 0 0) 156 0 1, S) :=
  w_X12_set_0 (d := 0) hl0 (fun q1 q2 q3 => absurd ⟨q1, q2, q3⟩ w) (fun _ _ _ => rfl) (r2 := fun _ _ => rfl) (r3 := fun _ => rfl)
theorem pu_set {x1 x2 x3 : Int} (h : IV c T U n P R N I S) : outC c mX11_set mX12_set ecI [vI x1, vI x2, vI x3] I S := by
  obtain ⟨l1, l2, hT⟩ := IV_L h
  obtain ⟨⟨b1, b2, b3⟩, ⟨e1, e2, e3⟩, f1, f2, f3⟩ := fc_IV h
  by_cases w : 0 ≤ x1 ∧ x1 < (P : Int)
  · obtain ⟨p, hp⟩ : ∃ p : Nat, x1 = (p : Int) := ⟨x1.toNat, by omega⟩
    have hpP : p < P := by omega
    subst hp
    obtain ⟨r, J, S1, hr, t1, t2, t3, t4, t5, t6, t7⟩ := st_IV h hpP
    have hln := ln_96 hr
    refine (fun hc => ?m1) (c_X11_set (d := 10) (I := I) (S := S) (x1 := (p : Int)) (x2 := x2) (x3 := x3) (J1 := J) (S1 := S1) l1 ?_ ?_ ?_ ?_ ?_ (fun _ _ _ _ _ => by rw [Int.toNat_natCast]; exact t1) (fun _ _ _ _ _ => t4))
    case m1 =>
      rw [e1, Int.toNat_natCast] at hc
      simp only [if_pos w] at hc
      have bad : Ca 34 mX11_set [vR (some (21, 0, 31)), vI (p : Int), vI x2, vI x3] (I, S) (.inr 1) (I, exS S) → (¬((0 ≤ x2 ∧ x2 ≤ 2) ∧ (0 ≤ x3 ∧ x3 ≤ 2))) → outC c mX11_set mX12_set ecI [vI (p : Int), vI x2, vI x3] I S := fun hc w2 => by
        refine mk_thr0 h (ec := ecI) (by decide) (Ca.deep hc (by omega)) fR_refl (fun Y hY hYJ => ?_)
        exact ⟨_, _, Ca.deep (set_N (IV_L hY).2.1 (fun z => w2 z.2)) (by omega), up2_same _ _ _ _, fR_00⟩
      by_cases w3 : x3 < 0
      · simp only [if_pos w3] at hc
        exact bad hc (by omega)
      simp only [if_neg w3] at hc
      by_cases w4 : 3 ≤ x3
      · simp only [if_pos w4] at hc
        exact bad hc (by omega)
      simp only [if_neg w4] at hc
      by_cases w5 : x2 < 0
      · simp only [if_pos w5] at hc
        exact bad hc (by omega)
      simp only [if_neg w5] at hc
      by_cases w6 : x2 ≤ 2
      · simp only [if_pos w6] at hc
        obtain ⟨k, hk⟩ : ∃ k : Nat, x3 = (k : Int) := ⟨x3.toNat, by omega⟩
        have hk3 : k < 3 := by omega
        subst hk
        rw [Int.toNat_natCast] at hc
        obtain ⟨F, hF1, hF2⟩ : ∃ F : Nat → Int, Ca 34 mX11_set [vR (some (21, 0, 31)), vI (p : Int), vI x2, vI (k : Int)] (I, S) (.inl (some (vI (F k)))) (J, S1) ∧ wdO F (fun i => sV J x2 (96 * p + i)) (lnC r) := by
          obtain ⟨u1, u2, u3, u4, u5, u6⟩ := t2
          by_cases x0 : x2 ≠ 0
          · simp only [if_pos x0] at hc
            by_cases x1 : x2 ≠ 1
            · simp only [if_pos x1] at hc
              refine ⟨J (T + 7 + 9 * p + 8), hc, wdO_cg u6 (fun i _ => ?_)⟩
              unfold sV
              refine decide_eq_decide.mpr ⟨fun q => Or.inl ⟨x0, Or.inl ⟨x1, q⟩⟩, fun q => ?_⟩
              rcases q with ⟨_, ⟨_, q⟩ | ⟨q, _⟩⟩ | ⟨q, _⟩
              · exact q
              · exact absurd q x1
              · exact absurd q x0
            · have x1' : x2 = 1 := by omega
              simp only [if_neg x1] at hc
              refine ⟨J (T + 7 + 9 * p + 7), hc, wdO_cg u5 (fun i _ => ?_)⟩
              unfold sV
              refine decide_eq_decide.mpr ⟨fun q => Or.inl ⟨x0, Or.inr ⟨x1', q⟩⟩, fun q => ?_⟩
              rcases q with ⟨_, ⟨q, _⟩ | ⟨_, q⟩⟩ | ⟨q, _⟩
              · exact absurd x1' q
              · exact q
              · exact absurd q x0
          · have x0' : x2 = 0 := by omega
            simp only [if_neg x0] at hc
            refine ⟨J (T + 7 + 9 * p + 6), hc, wdO_cg u4 (fun i _ => ?_)⟩
            unfold sV
            refine decide_eq_decide.mpr ⟨fun q => Or.inr ⟨x0', q⟩, fun q => ?_⟩
            rcases q with ⟨q, _⟩ | ⟨_, q⟩
            · exact absurd x0' q
            · exact q
        refine mk_okI (Ca.deep hF1 (by omega)) (IV_c t7 (by omega)) (t3.1 0 (by omega) (by omega) (by omega) (by omega) (by omega) (by omega) (by omega)) (fun Y hY hYJ => ?_)
        obtain ⟨_, ⟨m1, m2, m3⟩, g1, g2, g3⟩ := fm_IV hY
        obtain ⟨Z, hZ⟩ : ∃ Z, Z = up2 Y 156 0 0 := ⟨_, rfl⟩
        have zb : ∀ b, b ≠ 156 → b ≠ 191 → Z b = J b := fun b hb hb2 => by rw [hZ, ← hYJ b hb2]; exact funext (fun j => up2_a _ hb)
        have j167 : J 167 p = (lnC r : Int) := by
          obtain ⟨v1, r', s', v2, v3, v4, v5⟩ := (IV_P t7).2.2.2 p hpP
          have e : r' = r := by
            rw [t3.2 3 (by omega) (by omega), t5] at v2
            omega
          rw [← e]
          exact v4.1
        have lp := wdq_loop (d := 0) (I := Z) (S := S1) (x2 := x2) (p := p) (w := k) (n := lnC r) (F := F) (IV_L hY).2.1 (by omega) hk3 (by rw [zb 167 (by decide) (by decide)]; exact j167) (by omega) (wdO_cg hF2 (fun i _ => by unfold sV; rw [zb 170 (by decide) (by decide), zb 171 (by decide) (by decide), zb 169 (by decide) (by decide)])) 32 0 0 rfl ⟨by decide, by decide⟩ (fun i _ => by rw [bt_zero, decide_eq_false (by omega), Bool.false_and])
        rw [hZ] at lp
        have hm := w_X12_set_0 (d := 0) (I := Y) (S := S1) (x1 := (p : Int)) (x2 := x2) (x3 := (k : Int)) (v := F k) (h1 := (up2 Y 156 0 0, S1)) (IV_L hY).2.1 (fun _ _ _ => lp) (fun _ _ q => absurd (show 0 ≤ (k : Int) ∧ (k : Int) ≤ 2 by omega) q) (e1 := fun _ _ q => absurd (show 0 ≤ (k : Int) ∧ (k : Int) ≤ 2 by omega) q) (r2 := fun _ q => absurd (show 0 ≤ x2 ∧ x2 ≤ 2 by omega) q) (e2 := fun _ q => absurd (show 0 ≤ x2 ∧ x2 ≤ 2 by omega) q) (r3 := fun q => absurd (by rw [m1]; exact w) q) (e3 := fun q => absurd (by rw [m1]; exact w) q)
        exact ⟨_, Ca.deep hm (by omega), up2_same _ _ _ _, fR_0⟩
      · simp only [if_neg w6] at hc
        exact bad hc (by omega)
    all_goals (intros; first | omega | skip)
  · refine (fun hc => ?m1) (c_X11_set (d := 0) (I := I) (S := S) (x1 := x1) (x2 := x2) (x3 := x3) (J1 := I) (S1 := S) l1 ?_ ?_ ?_ ?_ ?_ (fun q => absurd (show 0 ≤ x1 ∧ x1 < (P : Int) by omega) w) (fun q => absurd (show 0 ≤ x1 ∧ x1 < (P : Int) by omega) w))
    case m1 =>
      rw [e1] at hc
      simp only [if_neg w] at hc
      refine mk_thr0 h (ec := ecI) (by decide) (Ca.deep hc (by omega)) fR_refl (fun Y hY hYJ => ?_)
      obtain ⟨_, ⟨m1, m2, m3⟩, g1, g2, g3⟩ := fm_IV hY
      exact ⟨_, _, Ca.deep (set_N (IV_L hY).2.1 (by rw [m1]; exact fun z => w z.1)) (by omega), up2_same _ _ _ _, fR_00⟩
    all_goals (intros; first | omega | skip)
end
end
