/-! ===== cases told: the reference's ===== -/
noncomputable section
theorem tyM_start {m0 m1 : Int} {ch : Nat → Int} {h : Nat} (hl : llK h 0 = true) (h0 : m0 ≤ ch 0) (h1 : m1 ≤ ch 0) : ∀ c : Nat, tyM m0 ch h (c + 1) = tyM m1 ch h (c + 1)
  | 0 => by
    show (if llK h 0 = true then max m0 (ch 0) else m0) = if llK h 0 = true then max m1 (ch 0) else m1
    rw [if_pos hl, if_pos hl]
    omega
  | c + 1 => by
    have ih := tyM_start hl h0 h1 c
    show (if llK h (c + 1) = true then max (tyM m0 ch h (c + 1)) (ch (c + 1)) else tyM m0 ch h (c + 1)) = if llK h (c + 1) = true then max (tyM m1 ch h (c + 1)) (ch (c + 1)) else tyM m1 ch h (c + 1)
    rw [ih]
section
variable {d : Nat} {I : Nat → Nat → Int} {S : PS} {h : Nat}
def chV0 (I : Nat → Nat → Int) (h c : Nat) : Int := chN (sM I 0) (rw3 c h) (h : Int) h
def cvW (I : Nat → Nat → Int) (h c : Nat) : Bool := anyB (fun p => hlB (I 159 (20 * (p : Int)).toNat) (I 159 ((20 * (p : Int)) + 1).toNat) (h : Int) (fun k => I 159 (((20 * (p : Int)) + 2) + (k : Int)).toNat) (rw3 c h) && rdM I p) ((I 156 13)).toNat
def csV (x2 : Int) (ch : Nat → Int) (cv : Nat → Bool) (m0 : Int) (h : Nat) : Int := if x2 = 0 then (cL h (3 ^ h) : Int) else if x2 = 1 then tyQ ch h (3 ^ h) else if x2 = 2 then tyC ch cv h (3 ^ h) else if x2 = 3 then tyQ ch h (3 ^ h) - tyC ch cv h (3 ^ h) else if x2 = 4 then tyL ch cv h (3 ^ h) else tyM m0 ch h (3 ^ h)
theorem cs_M {x2 : Int} (hl0 : LyX12 S) (hh : h = 5 ∨ h = 6 ∨ h = 7) (hr : mRl I 0) (hp : mPs I) (hx : 0 ≤ x2 ∧ x2 ≤ 5) : ∃ F, Ca (d + 4) mX12_cases [vR (some (22, 0, 156)), vI (h : Int), vI x2] (I, S) (.inl (some (vI (csV x2 (chV0 I h) (cvW I h) (-999999) h)))) (up1 (up2 I 156 0 0) 177 F, S) := by
  have hle := cL_le hh
  have hp3 := p3_le hh
  obtain ⟨K, hK⟩ : ∃ K, K = up2 I 156 0 0 := ⟨_, rfl⟩
  rw [← hK]
  obtain ⟨ch, hch⟩ : ∃ ch : Nat → Int, ch = chV0 I h := ⟨_, rfl⟩
  rw [← hch]
  obtain ⟨cv, hcv⟩ : ∃ cv : Nat → Bool, cv = cvW I h := ⟨_, rfl⟩
  rw [← hcv]
  have x13 : ∀ F : Nat → Int, (up1 K 177 F) 156 13 = I 156 13 := fun F => by rw [hK]; rfl
  have x14 : ∀ F : Nat → Int, (up1 K 177 F) 156 14 = I 156 14 := fun F => by rw [hK]; rfl
  have hrX : ∀ F : Nat → Int, mRl (up1 K 177 F) 0 := fun F => by rw [hK]; exact hr
  have hpX : ∀ F : Nat → Int, mPs (up1 K 177 F) := fun F => by rw [hK]; exact hp
  have ech : ∀ (F : Nat → Int) (c : Nat), (∀ j, j < h → F j = rw3 c h j) → chB (up1 K 177 F) 0 (h : Int) ((h : Int)).toNat = ch c := fun F c hF => by
    rw [chB_up, hch, hK, Int.toNat_natCast]
    exact chN_congr (by omega) (fun x y z w => sM_156 I 0 0 x y z w) (fun k hk => hF k (by omega)) h (by omega)
  have ecv : ∀ (F : Nat → Int) (c : Nat), (∀ j, j < h → F j = rw3 c h j) → cvM (up1 K 177 F) (h : Int) = cv c := fun F c hF => by
    rw [hcv]
    unfold cvM cvW
    rw [x13 F, hoM_bt]
    refine anyB_congr (fun p hp' => ?_)
    have h13 := hp.1
    rw [btN_bt (by omega), decide_eq_true hp', Bool.true_and, hdM_hl]
    have e1 : rdM (up1 K 177 F) p = rdM I p := by rw [hK]; rfl
    have e2 : (up1 K 177 F) 159 = I 159 := by rw [hK]; rfl
    rw [e1, e2, up1_same, hlB_congr (by omega) (fun k hk => hF k (by omega))]
  have ell : ∀ (F : Nat → Int) (c : Nat), (∀ j, j < h → F j = rw3 c h j) → llC ((up1 K 177 F) 177) (h : Int) = llK h c := fun F c hF => by
    rw [up1_same]
    exact llC_cg (by omega) hF
  have l72 : ∀ (t c : Nat) (F : Nat → Int), c + t = 3 ^ h → ∃ F', L_X12_cases_72 d 156 (h : Int) x2 ((3 ^ h : Nat) : Int) (cL h c : Int) (tyQ ch h c) (tyC ch cv h c) (tyL ch cv h c) (tyM (-999999) ch h c) (c : Int) (up1 K 177 F) S (csV x2 ch cv (-999999) h) (up1 K 177 F', S) := by
    intro t
    induction t with
    | zero =>
      intro c F hc
      obtain rfl : c = 3 ^ h := by omega
      have hq := tyQ_in ch cv h (3 ^ h)
      refine ⟨F, w_X12_cases_72 hl0 (fun q => absurd q (by omega)) (fun _ q => ?_) (r2 := fun _ q => ?_) (r3 := fun _ q => ?_) (r4 := fun _ q => ?_) (r5 := fun _ q => ?_) (r6 := fun _ q => ?_) (e1 := fun _ _ => rfl) (e2 := fun _ _ => rfl) (e3 := fun _ _ => rfl) (e4 := fun _ _ => rfl) (e5 := fun _ _ => rfl) (e6 := fun _ _ => rfl)⟩ <;> unfold csV
      · rw [if_pos q]
      · rw [if_neg (by omega), if_pos q]
      · rw [if_neg (by omega), if_neg (by omega), if_pos q]
      · rw [if_neg (by omega), if_neg (by omega), if_neg (by omega), if_pos q]
      · rw [if_neg (by omega), if_neg (by omega), if_neg (by omega), if_neg (by omega), if_pos q]
      · rw [if_neg (by omega), if_neg (by omega), if_neg (by omega), if_neg (by omega), if_neg (by omega)]
    | succ t ih =>
      intro c F hc
      have hc3 : c < 3 ^ h := by omega
      have hst : cL h (c + 1) = cL h c + (if llK h c = true then 1 else 0) := rfl
      have hm := cL_mono h (show c + 1 ≤ 3 ^ h from hc3)
      have hq := tyQ_in ch cv h c
      have ih := fun F => ih (c + 1) F (by omega)
      have u1 : tyQ ch h (c + 1) = if llK h c = true then (if ch c ≤ 0 then tyQ ch h c else tyQ ch h c + 1) else tyQ ch h c := rfl
      have u2 : tyC ch cv h (c + 1) = if llK h c = true then (if ch c ≤ 0 then tyC ch cv h c else if cv c = true then tyC ch cv h c + 1 else tyC ch cv h c) else tyC ch cv h c := rfl
      have u3 : tyL ch cv h (c + 1) = if llK h c = true then (if ch c ≤ 0 then tyL ch cv h c else if cv c = true then tyL ch cv h c else if tyL ch cv h c ≠ -1 then tyL ch cv h c else dsI (rw3 c h) h) else tyL ch cv h c := rfl
      have u4 : tyM (-999999) ch h (c + 1) = if llK h c = true then max (tyM (-999999) ch h c) (ch c) else tyM (-999999) ch h c := rfl
      have l90 : ∀ (t : Nat) (F : Nat → Int), t ≤ h → (∀ j, t ≤ j → j < h → F j = rw3 c h j) → ∃ F', L_X12_cases_90 d 156 (h : Int) x2 ((3 ^ h : Nat) : Int) (cL h c : Int) (tyQ ch h c) (tyC ch cv h c) (tyL ch cv h c) (tyM (-999999) ch h c) (c : Int) ((c / 3 ^ (h - t) : Nat) : Int) 0 ((t : Int) - 1) (up1 K 177 F) S (csV x2 ch cv (-999999) h) (up1 K 177 F', S) := by
        intro t
        induction t with
        | zero =>
          intro F _ hF
          have hF : ∀ j, j < h → F j = rw3 c h j := fun j hj => hF j (by omega) hj
          have e1 := ech F c hF
          have e2 := ecv F c hF
          have e3 := ell F c hF
          have emax : (if ch c ≤ tyM (-999999) ch h c then (tyM (-999999) ch h c : Int) else ch c) = max (tyM (-999999) ch h c) (ch c) := by split <;> omega
          obtain ⟨F', q1⟩ := ih F
          by_cases hl : llK h c = true
          · rw [hst, u1, u2, u3, u4, if_pos hl, if_pos hl, if_pos hl, if_pos hl, if_pos hl] at q1
            by_cases h0 : ch c ≤ 0
            · rw [if_pos h0, if_pos h0, if_pos h0] at q1
              refine ⟨F', w_X12_cases_90 hl0 (fun _ _ q => absurd q (by rw [e1]; omega)) (fun _ _ q => absurd q (by rw [e1]; omega)) (fun _ _ _ => ?_) (fun _ q => absurd (e3.trans hl) q) (fun q => absurd q (by omega)) (v3 := fun _ _ => (hrX F).1) (v4 := fun _ _ => (hrX F).2) (v5 := fun _ _ q => absurd q (by rw [e1]; omega)) (v6 := fun _ _ _ => hpX F) (v7 := fun _ _ q => absurd q (by rw [e1]; omega)) (v8 := fun _ _ q => absurd q (by rw [e1]; omega)) (v11 := fun q => absurd q (by omega)) (v13 := fun q => absurd q (by omega))⟩
              rw [e1, emax]
              exact q1
            · rw [if_neg h0, if_neg h0, if_neg h0] at q1
              by_cases hv : cv c = true
              · rw [if_pos hv, if_pos hv] at q1
                refine ⟨F', w_X12_cases_90 hl0 (fun _ _ _ q => absurd (e2.trans hv) q) (fun _ _ _ _ => ?_) (fun _ _ q => absurd q (by rw [e1]; omega)) (fun _ q => absurd (e3.trans hl) q) (fun q => absurd q (by omega)) (v3 := fun _ _ => (hrX F).1) (v4 := fun _ _ => (hrX F).2) (v6 := fun _ _ _ => hpX F) (v11 := fun q => absurd q (by omega)) (v13 := fun q => absurd q (by omega))⟩
                rw [e1, emax]
                exact q1
              · rw [if_neg hv, if_neg hv] at q1
                have l186 : L_X12_cases_186 d 156 (h : Int) x2 ((3 ^ h : Nat) : Int) ((cL h c : Int) + 1) (tyQ ch h c + 1) (tyC ch cv h c) (tyL ch cv h c) (max (tyM (-999999) ch h c) (ch c)) (c : Int) ((c / 3 ^ (h - 0) : Nat) : Int) 0 (ch c) 0 (up1 K 177 F) S (csV x2 ch cv (-999999) h) (up1 K 177 F', S) := by
                  refine up_loopN (P := fun k => L_X12_cases_186 d 156 (h : Int) x2 ((3 ^ h : Nat) : Int) ((cL h c : Int) + 1) (tyQ ch h c + 1) (tyC ch cv h c) (tyL ch cv h c) (max (tyM (-999999) ch h c) (ch c)) (c : Int) ((c / 3 ^ (h - 0) : Nat) : Int) (dsI (rw3 c h) k) (ch c) (k : Int) (up1 K 177 F) S (csV x2 ch cv (-999999) h) (up1 K 177 F', S)) (n := h) ?_ ?_
                  · refine w_X12_cases_186 hl0 (fun _ => ?_) (fun q => absurd q (by omega)) (v1 := fun _ => by omega) (v2 := fun q => absurd q (by omega)) (v4 := fun q => absurd q (by omega))
                    exact q1
                  · intro k hk ihk
                    have hdl := dsI_le (f := rw3 c h) (n := k) (fun k _ => by have := rw3_in c h k; omega)
                    have hp10 : (10 : Int) ^ k ≤ 1000000 := by
                      have : k = 0 ∨ k = 1 ∨ k = 2 ∨ k = 3 ∨ k = 4 ∨ k = 5 ∨ k = 6 := by omega
                      rcases this with rfl | rfl | rfl | rfl | rfl | rfl | rfl <;> decide
                    have hrw := rw3_in c h k
                    have hdd : 0 ≤ dsI (rw3 c h) k ∧ dsI (rw3 c h) k ≤ 1000000 := ⟨hdl.1, by generalize (10 : Int) ^ k = P at *; omega⟩
                    clear hdl hp10
                    have ek : (up1 K 177 F) 177 ((k : Int)).toNat = rw3 c h k := by rw [up1_same, Int.toNat_natCast]; exact hF k hk
                    refine w_X12_cases_186 hl0 (fun q => absurd q (by omega)) (fun _ => ?_) (v1 := fun q => absurd q (by omega)) (v2 := fun _ => by omega) (v3 := fun _ => by omega) (v4 := fun _ => by rw [ek]; omega)
                    rw [ek]
                    have eds : (10 * dsI (rw3 c h) k) + rw3 c h k = dsI (rw3 c h) (k + 1) := by
                      show _ = dsI (rw3 c h) k * 10 + rw3 c h k
                      omega
                    rw [eds]
                    exact ihk
                refine ⟨F', w_X12_cases_90 hl0 (fun _ _ _ _ => ?_) (fun _ _ _ q => absurd (e2.symm.trans q) hv) (fun _ _ q => absurd q (by rw [e1]; omega)) (fun _ q => absurd (e3.trans hl) q) (fun q => absurd q (by omega)) (v3 := fun _ _ => (hrX F).1) (v4 := fun _ _ => (hrX F).2) (v6 := fun _ _ _ => hpX F) (v11 := fun q => absurd q (by omega)) (v13 := fun q => absurd q (by omega))⟩
                rw [e1, emax]
                exact l186
          · rw [hst, u1, u2, u3, u4, if_neg hl, if_neg hl, if_neg hl, if_neg hl, if_neg hl, Nat.add_zero] at q1
            exact ⟨F', w_X12_cases_90 hl0 (fun _ q => absurd (e3.symm.trans q) hl) (fun _ q => absurd (e3.symm.trans q) hl) (fun _ q => absurd (e3.symm.trans q) hl) (fun _ _ => q1) (fun q => absurd q (by omega)) (v3 := fun _ _ => (hrX F).1) (v4 := fun _ _ => (hrX F).2) (v6 := fun _ _ _ => hpX F) (v11 := fun q => absurd q (by omega)) (v13 := fun q => absurd q (by omega))⟩
        | succ t iht =>
          intro F ht hF
          have hdv : ((c / 3 ^ (h - (t + 1)) : Nat) : Int) / 3 = ((c / 3 ^ (h - t) : Nat) : Int) := by
            rw [show h - t = (h - (t + 1)) + 1 by omega, Nat.pow_succ, ← Nat.div_div_eq_div_mul]
            omega
          have hlec : c / 3 ^ (h - (t + 1)) ≤ c := Nat.div_le_self _ _
          have hlec2 : ((c / 3 ^ (h - (t + 1)) : Nat) : Int) ≤ 2147483647 := Int.le_trans (Int.ofNat_le.mpr hlec) (by clear hdv hlec; omega)
          have hdg : 5 + ((c / 3 ^ (h - (t + 1)) : Nat) : Int) % 3 = rw3 c h t := by
            unfold rw3
            rw [dg3_T]
            unfold dgT
            rw [show h - (t + 1) = h - 1 - t by omega]
            omega
          obtain ⟨F', q1⟩ := iht (up1 F t (rw3 c h t)) (by omega) (fun j hj hj2 => by
            by_cases e : j = t
            · rw [e, up1_same]
            · rw [up1_o F e]; exact hF j (by omega) hj2)
          refine ⟨F', w_X12_cases_90 hl0 (fun q => absurd q (by omega)) (fun q => absurd q (by omega)) (fun q => absurd q (by omega)) (fun q => absurd q (by omega)) (fun _ => ?_) (v1 := fun q => absurd q (by omega)) (v2 := fun q => absurd q (by omega)) (v3 := fun q => absurd q (by omega)) (v4 := fun q => absurd q (by omega)) (v6 := fun q => absurd q (by omega)) (v11 := fun _ => ⟨⟨Int.natCast_nonneg _, hlec2⟩, by decide, by decide⟩) (v12 := fun _ => by rw [hdg]; have := rw3_in c h t; clear hdv hdg hlec hlec2; omega) (v13 := fun _ => by omega)⟩
          rw [hdv, hdg, show (((t + 1 : Nat) : Int) - 1).toNat = t by omega, up2_up1, up1_same, up1_up1, show ((t + 1 : Nat) : Int) - 1 - 1 = (t : Int) - 1 by omega]
          exact q1
      obtain ⟨F', q1⟩ := l90 h F (Nat.le_refl h) (fun j h1 h2 => absurd h1 (by omega))
      rw [Nat.sub_self, Nat.pow_zero, Nat.div_one] at q1
      exact ⟨F', w_X12_cases_72 hl0 (fun _ => q1) (fun q => absurd q (by omega)) (r2 := fun q => absurd q (by omega)) (r3 := fun q => absurd q (by omega)) (r4 := fun q => absurd q (by omega)) (r5 := fun q => absurd q (by omega)) (r6 := fun q => absurd q (by omega)) (e1 := fun q => absurd q (by omega)) (e2 := fun q => absurd q (by omega)) (e3 := fun q => absurd q (by omega)) (e4 := fun q => absurd q (by omega)) (e5 := fun q => absurd q (by omega)) (e6 := fun q => absurd q (by omega))⟩
  obtain ⟨F', q1⟩ := l72 (3 ^ h) 0 (K 177) (by omega)
  rw [up1_self] at q1
  have l36 : L_X12_cases_36 d 156 (h : Int) x2 1 0 K S (csV x2 ch cv (-999999) h) (up1 K 177 F', S) := by
    refine up_loopN (P := fun k => L_X12_cases_36 d 156 (h : Int) x2 ((3 ^ k : Nat) : Int) (k : Int) K S (csV x2 ch cv (-999999) h) (up1 K 177 F', S)) (n := h) ?_ ?_
    · exact w_X12_cases_36 hl0 (fun _ => q1) (fun q => absurd q (by omega)) (v1 := fun q => absurd q (by omega))
    · intro k hk ihk
      have hp : 3 ^ k ≤ 2187 := Nat.le_trans (Nat.pow_le_pow_right (n := 3) (by decide) (show k ≤ 7 by omega)) (by decide)
      refine w_X12_cases_36 hl0 (fun q => absurd q (by omega)) (fun _ => ?_) (v1 := fun _ => by generalize 3 ^ k = P at hp ⊢; omega)
      rw [show 3 * ((3 ^ k : Nat) : Int) = ((3 ^ (k + 1) : Nat) : Int) by rw [Nat.pow_succ]; omega]
      exact ihk
  exact ⟨F', w_X12_cases_0 hl0 (fun _ _ => by rw [← hK]; exact l36) (fun _ q => absurd q (by omega)) (r2 := fun q => absurd q (by omega)) (e1 := fun _ q => absurd q (by omega)) (e2 := fun q => absurd q (by omega))⟩
end
end
