/-! ===== a join is read: the reference's ===== -/
noncomputable section
section
variable {d : Nat} {I J K X : Nat → Nat → Int} {S : PS} {U n q p c : Nat} {t : Nat → Int} {m ring sp : Int} {ok : Int → Int → Bool}
/-- the row behind a join -/
def jnW (M : Nat → Int) (p c : Nat) (a b : Int) : Nat → Int := up1 (up1 (up1 M (20 * p + 11 + 2 * c) a) (20 * p + 12 + 2 * c) b) (20 * p + 10) ((c : Int) + 1)
/-- what reading a join leaves in the reference -/
def jmQ (t : Nat → Int) (n p c : Nat) (P : (Int × Nat) ⊕ (Int × Int × Nat)) (X J : Nat → Nat → Int) : Prop := (∀ k q', P = .inl (k, q') → J 156 3 = k ∧ J 156 4 = (tkS t n q' : Int) ∧ k ≠ 0) ∧ ∀ a b q', P = .inr (a, b, q') → J 156 3 = 0 ∧ J 162 = jnW (X 162) p c a b ∧ TKm J t n q' ∧ q' ≤ n
theorem jmQ_bad {P : (Int × Nat) ⊕ (Int × Int × Nat)} {k : Int} {q' : Nat} (hP : P = .inl (k, q')) (h3 : J 156 3 = k) (h4 : J 156 4 = (tkS t n q' : Int)) (hk : k ≠ 0) : jmQ t n p c P X J := by
  refine ⟨fun k' q'' e => ?_, fun a b q'' e => ?_⟩
  · rw [hP] at e; cases e; exact ⟨h3, h4, hk⟩
  · rw [hP] at e; cases e
theorem jn_lp {x1 x2 x3 a b : Int} {f0 : Bool} {h1 : PM} (hl0 : LyX12 S) (hx : x1 = (p : Int)) (hp : p < 4) (hc4 : c < 4) (k : L_X12_readsJoin_262 d 156 x1 x2 x3 (c : Int) a b (if (f0 && !anyB (jnP (X 162) (p : Int) a b) c) = true then (1 : Int) else 0) (c : Int) X S h1) : ∀ r j : Nat, j + r = c → L_X12_readsJoin_169 d 156 x1 x2 x3 (c : Int) a b (if (f0 && !anyB (jnP (X 162) (p : Int) a b) j) = true then (1 : Int) else 0) (j : Int) X S h1 := by
  intro r
  induction r with
  | zero =>
    intro j hj
    obtain rfl : j = c := by omega
    exact w_X12_readsJoin_169 hl0 (fun _ => k) (fun w => absurd w (by omega)) (v1 := by omega) (v2 := by omega) (v3 := by omega) (v4 := by omega) (v5 := by omega) (v6 := by omega) (v7 := by omega) (v8 := by omega)
  | succ r ih =>
    intro j hj
    refine w_X12_readsJoin_169 hl0 (fun w => absurd w (by omega)) (fun _ => ?_) (v1 := by omega) (v2 := by omega) (v3 := by omega) (v4 := by omega) (v5 := by omega) (v6 := by omega) (v7 := by omega) (v8 := by omega)
    have e : (if ((if (f0 && !anyB (jnP (X 162) (p : Int) a b) j) = true then (1 : Int) else 0) ≠ 0) ∧ (((X 162 (((20 * x1) + 11) + (2 * (j : Int))).toNat ≠ a) ∧ ((X 162 (((20 * x1) + 11) + (2 * (j : Int))).toNat ≠ b) ∨ (X 162 ((((20 * x1) + 11) + (2 * (j : Int))) + 1).toNat ≠ a))) ∨ ((X 162 (((20 * x1) + 11) + (2 * (j : Int))).toNat = a) ∧ ((X 162 ((((20 * x1) + 11) + (2 * (j : Int))) + 1).toNat ≠ b) ∧ ((X 162 (((20 * x1) + 11) + (2 * (j : Int))).toNat ≠ b) ∨ (X 162 ((((20 * x1) + 11) + (2 * (j : Int))) + 1).toNat ≠ a))))) then (1 : Int) else 0) = (if (f0 && !anyB (jnP (X 162) (p : Int) a b) (j + 1)) = true then (1 : Int) else 0) := by
      rw [hx]
      show _ = (if (f0 && !(anyB (jnP (X 162) (p : Int) a b) j || jnP (X 162) (p : Int) a b j)) = true then (1 : Int) else 0)
      unfold jnP
      generalize anyB _ j = z
      generalize X 162 (((20 * (p : Int)) + 11) + (2 * (j : Int))).toNat = y1
      generalize X 162 ((((20 * (p : Int)) + 11) + (2 * (j : Int))) + 1).toNat = y2
      cases f0 <;> cases z <;> simp <;> (by_cases g1 : y1 = a <;> by_cases g2 : y1 = b <;> by_cases g3 : y2 = a <;> by_cases g4 : y2 = b <;> simp [g1, g2, g3, g4])
    rw [e]
    exact ih (j + 1) (by omega)
theorem rj_M (hl0 : LyX12 S) (hb : ∀ k, 0 ≤ t k ∧ t k ≤ 255) (hn : n ≤ 700) (hq : q ≤ n) (ht : X 157 = t) (hk : TKm X t n q) (h3 : X 156 3 = 0) (hp : p < 4) (h16 : X 156 16 = (p : Int) + 1) (hr : X 162 ((20 * (p : Int)) + 9).toNat = ring) (hs : X 162 ((20 * (p : Int)) + 1).toNat = sp) (hc : X 162 ((20 * (p : Int)) + 10).toNat = (c : Int)) (hc4 : c < 4) (hm : (ring + 1) + sp = m) (hm15 : m ≤ 15) (hrb : 0 ≤ ring ∧ ring ≤ 7) (hsb : 0 ≤ sp ∧ sp ≤ 7) (hok : ∀ a b : Nat, (a : Int) < m → (b : Int) < m → ok a b = (bt (X 166 ((15 * (p : Int)) + (a : Int)).toNat) b && !jnM (X 162) (p : Int) a b && decide (ring ≤ a ∨ ring ≤ b))) : ∃ J, Ca (d + 4) mX12_readsJoin [vR (some (22, 0, 156))] (X, S) (.inl none) (J, S) ∧ rdF X J ∧ (∀ a, a ≠ 156 → a ≠ 162 → J a = X a) ∧ (∀ k, ¬(k = 3 ∨ k = 4 ∨ gsK k) → J 156 k = X 156 k) ∧ jmQ t n p c (jnR t n q m ok) X J := by
  have hin := tk_in t hq
  have hin2 := tk_in t hin.2.2.2
  have ex1 : X 156 16 - 1 = (p : Int) := by omega
  have bF : ∀ (Y : Nat → Nat → Int) (k v : Int), (∀ a, a ≠ 156 → a ≠ 162 → (up2 (up2 Y 156 3 k) 156 4 v) a = Y a) ∧ ∀ j, ¬(j = 3 ∨ j = 4 ∨ gsK j) → (up2 (up2 Y 156 3 k) 156 4 v) 156 j = Y 156 j := fun Y k v => ⟨fun a h1 _ => funext (fun j => by rw [up2_a _ h1, up2_a _ h1]), fun j hj => by rw [up2_k _ (by omega), up2_k _ (by omega)]⟩
  have bad : ∀ (Y : Nat → Nat → Int) (k v : Int), k ≠ 0 → ¬((up2 (up2 Y 156 3 k) 156 4 v) 156 3 = 0) := fun Y k v hk' => hk'
  have start : ∀ h1, (∀ z (Y : Nat → Nat → Int), Ca (d + 3) mX12_numberHere [vR (some (22, 0, 156)), vI 0, vI 9999] (X, S) (.inl (some (vI z))) (Y, S) → (Y 156 3 = 0 → m ≤ z → ∃ Z, Ca (d + 3) mX12_wrong [vR (some (22, 0, 156)), vI 3] (Y, S) (.inl none) (Z, S) ∧ L_X12_readsJoin_78 d 156 (p : Int) ring m (c : Int) z Z S h1) → ((Y 156 3 = 0 → z < m) → L_X12_readsJoin_78 d 156 (p : Int) ring m (c : Int) z Y S h1) → Ca (d + 4) mX12_readsJoin [vR (some (22, 0, 156))] (X, S) (.inl none) h1) := by
    intro h1 z Y g1 kk1 kk2
    by_cases w : Y 156 3 = 0 ∧ m ≤ z
    · obtain ⟨Z, z1, z2⟩ := kk1 w.1 w.2
      exact w_X12_readsJoin_0 (J1 := Y) (J2 := Z) hl0 g1 (fun w' => absurd w.1 w') (fun _ w' => absurd w' (by rw [ex1, hr, hs, hm]; omega)) (fun _ _ => z1) (fun _ _ => by rw [ex1, hr, hs, hm, hc]; exact z2) (v1 := by omega) (v2 := by omega) (v3 := by omega) (v4 := by omega) (v5 := by rw [ex1, hr]; omega) (v6 := by omega) (v7 := by omega) (v8 := by rw [ex1, hr, hs]; omega) (v9 := by omega) (v10 := by omega)
    · exact w_X12_readsJoin_0 (J1 := Y) (J2 := Y) hl0 g1 (fun w' => by rw [ex1, hr, hs, hm, hc]; exact kk2 (fun w'' => absurd w'' w')) (fun w1 w' => by rw [ex1, hr, hs, hm] at w'; rw [ex1, hr, hs, hm, hc]; exact kk2 (fun _ => w')) (fun w1 w2 => absurd ⟨w1, by rw [ex1, hr, hs, hm] at w2; exact w2⟩ w) (fun w1 w2 => absurd ⟨w1, by rw [ex1, hr, hs, hm] at w2; exact w2⟩ w) (v1 := by omega) (v2 := by omega) (v3 := by omega) (v4 := by omega) (v5 := by rw [ex1, hr]; omega) (v6 := by omega) (v7 := by omega) (v8 := by rw [ex1, hr, hs]; omega) (v9 := by omega) (v10 := by omega)
  have e9 : X 156 9 = (tkS t n q : Int) := hk.2.2.1
  by_cases c1 : vfK t n q m = 0
  · obtain ⟨f1, f2, f3⟩ := vf_0 c1
    have g1 := nh_y (d := d + 2) (lo := 0) (hi := 9999) hl0 hk h3 f1
    obtain ⟨y1, y2, y3, y4, y5⟩ := rdF_go (d := d + 2) hl0 ht hb hk hn hq
    have Y3 : gsI X 156 3 = 0 := by rw [y5 3 (by unfold gsK; omega)]; exact h3
    have goto1 : ∀ h1, L_X12_readsJoin_86 d 156 (p : Int) ring m (c : Int) (gsV t n q) X S h1 → Ca (d + 4) mX12_readsJoin [vR (some (22, 0, 156))] (X, S) (.inl none) h1 := fun h1 kk => start h1 _ _ g1 (fun _ w => absurd w (by omega)) (fun _ => w_X12_readsJoin_78 hl0 (fun _ => kk) (e1 := fun w => absurd h3 w))
    have F1 : rdF X (gsI X) := y3
    have e92 : gsI X 156 9 = (tkS t n (tkE t n q) : Int) := y2.2.2.1
    by_cases c2 : vfK t n (tkE t n q) m = 0
    · obtain ⟨g1', g2', g3'⟩ := vf_0 c2
      have n2 := nh_y (d := d + 2) (J := gsI X) (lo := 0) (hi := 9999) hl0 y2 Y3 g1'
      obtain ⟨a, ha⟩ : ∃ a : Nat, gsV t n q = (a : Int) := ⟨(gsV t n q).toNat, by omega⟩
      obtain ⟨b, hbb⟩ : ∃ b : Nat, gsV t n (tkE t n q) = (b : Int) := ⟨(gsV t n (tkE t n q)).toNat, by omega⟩
      rw [ha] at f3
      rw [hbb] at g3'
      have hk' := hok a b f3 g3'
      have y166 : gsI X 166 = X 166 := y4 166 (by decide)
      have y162 : gsI X 162 = X 162 := y4 162 (by decide)
      have s1 := p_tst_1 (x := X 166 ((15 * (p : Int)) + (a : Int)).toNat) (s := (b : Int)) (by omega)
      rw [Int.toNat_natCast] at s1
      have goto2 : ∀ h1, L_X12_readsJoin_262 d 156 (p : Int) ring m (c : Int) (a : Int) (b : Int) (if ok a b = true then (1 : Int) else 0) (c : Int) (gsI X) S h1 → Ca (d + 4) mX12_readsJoin [vR (some (22, 0, 156))] (X, S) (.inl none) h1 := by
        intro h1 kk
        refine goto1 h1 ?_
        rw [ha]
        rw [hbb] at n2
        refine w_X12_readsJoin_86 (J1 := gsI X) (J2 := gsI X) (J3 := X) hl0 y1 n2 (fun w => absurd Y3 w) (fun _ _ => ?_) (fun _ w => absurd w (by omega)) (fun _ w => absurd w (by omega))
        refine w_X12_readsJoin_118 hl0 (fun _ => ?_) (e1 := fun w => absurd Y3 w)
        refine w_X12_readsJoin_126 hl0 ?_ (v1 := by omega) (v2 := by omega) (v3 := by omega)
        have eb : (if (p_and (p_shr (gsI X 166 ((15 * (p : Int)) + (a : Int)).toNat) (b : Int)) 1 = 1) ∧ ((ring ≤ (a : Int)) ∨ (ring ≤ (b : Int))) then (1 : Int) else 0) = (if ((bt (X 166 ((15 * (p : Int)) + (a : Int)).toNat) b && decide (ring ≤ (a : Int) ∨ ring ≤ (b : Int))) && !anyB (jnP (gsI X 162) (p : Int) (a : Int) (b : Int)) 0) = true then (1 : Int) else 0) := by
          rw [y166]
          show _ = (if ((bt (X 166 ((15 * (p : Int)) + (a : Int)).toNat) b && decide (ring ≤ (a : Int) ∨ ring ≤ (b : Int))) && !false) = true then (1 : Int) else 0)
          rw [Bool.not_false, Bool.and_true]
          exact ite_iff (by rw [Bool.and_eq_true, decide_eq_true_iff]; exact and_congr s1 Iff.rfl)
        rw [eb]
        refine jn_lp (X := gsI X) (f0 := bt (X 166 ((15 * (p : Int)) + (a : Int)).toNat) b && decide (ring ≤ (a : Int) ∨ ring ≤ (b : Int))) hl0 rfl hp hc4 ?_ c 0 (by omega)
        have eo : ((bt (X 166 ((15 * (p : Int)) + (a : Int)).toNat) b && decide (ring ≤ (a : Int) ∨ ring ≤ (b : Int))) && !anyB (jnP (gsI X 162) (p : Int) (a : Int) (b : Int)) c) = ok a b := by
          rw [hk', y162]
          have : jnM (X 162) (p : Int) (a : Int) (b : Int) = anyB (jnP (X 162) (p : Int) (a : Int) (b : Int)) c := by unfold jnM; rw [hc, Int.toNat_natCast]
          rw [this, Bool.and_right_comm]
        rw [eo]
        exact kk
      by_cases hv : ok a b = true
      · have hR : jnR t n q m ok = .inr ((a : Int), (b : Int), tkE t n (tkE t n q)) := by
          unfold jnR
          rw [if_neg (fun w => w c1), if_neg (fun w => w c2), ha, hbb, if_pos hv]
        have i1 : (((20 * (p : Int)) + 11) + (2 * (c : Int))).toNat = 20 * p + 11 + 2 * c := by omega
        have i2 : ((((20 * (p : Int)) + 11) + (2 * (c : Int))) + 1).toNat = 20 * p + 12 + 2 * c := by omega
        have i3 : ((20 * (p : Int)) + 10).toNat = 20 * p + 10 := by omega
        have hcN : gsI X 162 (20 * p + 10) = (c : Int) := by rw [y162, ← i3]; exact hc
        generalize hZ : up1 (gsI X) 162 (jnW (X 162) p c (a : Int) (b : Int)) = Z
        have z0 : ∀ a, a ≠ 162 → Z a = gsI X a := fun a h => by rw [← hZ]; exact up1_o _ h
        have zW : ∀ w : Int, w = (c : Int) → up2 (up2 (up2 (gsI X) 162 ((((20 * (p : Int)) + 11) + (2 * (c : Int))).toNat) (a : Int)) 162 (((((20 * (p : Int)) + 11) + (2 * (c : Int))) + 1).toNat) (b : Int)) 162 (((20 * (p : Int)) + 10).toNat) (w + 1) = Z := fun w hw => by
          rw [hw, i1, i2, i3, ← hZ, up2_up1, up2_up1 (gsI X), up2_up1 (up1 _ _ _), up1_same, up1_up1, up1_same, up1_up1, y162]
          rfl
        have zc : (up2 (up2 (gsI X) 162 ((((20 * (p : Int)) + 11) + (2 * (c : Int))).toNat) (a : Int)) 162 (((((20 * (p : Int)) + 11) + (2 * (c : Int))) + 1).toNat) (b : Int)) 162 ((20 * (p : Int)) + 10).toNat = (c : Int) := by
          rw [i1, i2, i3, up2_k _ (by omega), up2_k _ (by omega)]
          exact hcN
        have hkZ : TKm Z t n (tkE t n q) := by unfold TKm; rw [z0 156 (by decide)]; exact y2
        obtain ⟨x1, x2, x3, x4, x5⟩ := rdF_go (d := d + 2) hl0 (X := Z) (by rw [z0 157 (by decide), y4 157 (by decide)]; exact ht) hb hkZ hn hin.2.2.2
        have FZ : rdF (gsI X) Z := ⟨fun a _ h2 _ _ _ => z0 a h2, fun k _ => by rw [z0 156 (by decide)], erR_eq (by rw [z0 156 (by decide)]) (by rw [z0 156 (by decide)])⟩
        refine ⟨gsI Z, goto2 _ (w_X12_readsJoin_262 (J1 := X) hl0 (fun _ => w_X12_readsJoin_272 hl0 (fun _ => w_X12_readsJoin_280 (J1 := gsI Z) hl0 (by rw [zW _ zc]; exact x1) (v1 := by omega) (v2 := by omega) (v3 := by omega) (v4 := by omega) (v5 := by omega) (v6 := by omega) (v7 := by omega) (v8 := by omega) (v9 := by omega) (v10 := by rw [zc]; omega)) (e1 := fun w => absurd Y3 w)) (fun w => absurd w (by rw [if_pos hv]; decide)) (fun w => absurd w (by rw [if_pos hv]; decide))), rdF_trans F1 (rdF_trans FZ x3), fun z h1 h2 => by rw [x4 z h1, z0 z h2, y4 z h1], fun k hk' => by rw [x5 k (fun w => hk' (Or.inr (Or.inr w))), z0 156 (by decide), y5 k (fun w => hk' (Or.inr (Or.inr w)))], ?_⟩
        rw [hR]
        refine ⟨fun k q' e => (by cases e), fun a' b' q' e => ?_⟩
        cases e
        refine ⟨?_, ?_, x2, hin2.2.2.2⟩
        · rw [x5 3 (by unfold gsK; omega), z0 156 (by decide)]; exact Y3
        · rw [x4 162 (by decide), ← hZ, up1_same]
      · have hR : jnR t n q m ok = .inl (4, tkE t n q) := by
          unfold jnR
          rw [if_neg (fun w => w c1), if_neg (fun w => w c2), ha, hbb, if_neg hv]
        have w4 := wr_y (d := d + 3) (J := gsI X) (k := 4) hl0 Y3
        rw [e92] at w4
        refine ⟨up2 (up2 (gsI X) 156 3 4) 156 4 (tkS t n (tkE t n q) : Int), goto2 _ (w_X12_readsJoin_262 (J1 := up2 (up2 (gsI X) 156 3 4) 156 4 (tkS t n (tkE t n q) : Int)) hl0 (fun w => absurd (if_neg hv) w) (fun _ => w4) (fun _ => w_X12_readsJoin_272 hl0 (fun w => absurd w (bad _ 4 _ (by decide))) (e1 := fun _ => rfl))), rdF_trans F1 rdF_bad, fun z h1 h2 => by rw [(bF _ _ _).1 z h1 h2, y4 z h1], fun k hk' => by rw [(bF _ _ _).2 k hk', y5 k (fun w => hk' (Or.inr (Or.inr w)))], jmQ_bad hR rfl (up2_same _ _ _ _) (by decide)⟩
    · have hR : jnR t n q m ok = .inl (vfK t n (tkE t n q) m, tkE t n q) := by
        unfold jnR
        rw [if_neg (fun w => w c1), if_pos c2]
      refine ⟨up2 (up2 (gsI X) 156 3 (vfK t n (tkE t n q) m)) 156 4 (tkS t n (tkE t n q) : Int), goto1 _ ?_, rdF_trans F1 rdF_bad, fun z h1 h2 => by rw [(bF _ _ _).1 z h1 h2, y4 z h1], fun k hk' => by rw [(bF _ _ _).2 k hk', y5 k (fun w => hk' (Or.inr (Or.inr w)))], jmQ_bad hR rfl (up2_same _ _ _ _) c2⟩
      by_cases nf : nfK t n (tkE t n q) 0 9999 = 0
      · have n2 := nh_y (d := d + 2) (J := gsI X) (lo := 0) (hi := 9999) hl0 y2 Y3 nf
        have hv3 : vfK t n (tkE t n q) m = 3 ∧ m ≤ gsV t n (tkE t n q) := by
          unfold vfK at c2 ⊢
          rw [if_neg (fun w => w nf)] at c2 ⊢
          by_cases e : m ≤ gsV t n (tkE t n q)
          · exact ⟨if_pos e, e⟩
          · rw [if_neg e] at c2; exact absurd rfl c2
        have w3 := wr_y (d := d + 3) (J := gsI X) (k := 3) hl0 Y3
        rw [e92] at w3
        rw [hv3.1]
        exact w_X12_readsJoin_86 (J1 := gsI X) (J2 := gsI X) hl0 y1 n2 (fun w => absurd Y3 w) (fun _ w => absurd w (by omega)) (fun _ _ => w3) (fun _ _ => w_X12_readsJoin_118 hl0 (fun w => absurd w (bad _ 3 _ (by decide))) (e1 := fun _ => rfl))
      · have n2 := nh_n (d := d + 2) (J := gsI X) (lo := 0) (hi := 9999) hl0 y2 Y3 nf
        have hv3 : vfK t n (tkE t n q) m = nfK t n (tkE t n q) 0 9999 := by unfold vfK; rw [if_pos nf]
        rw [hv3]
        exact w_X12_readsJoin_86 (J1 := gsI X) (J3 := X) hl0 y1 n2 (fun _ => w_X12_readsJoin_118 hl0 (fun w => absurd w (bad _ _ _ nf)) (e1 := fun _ => rfl)) (fun w => absurd w (bad _ _ _ nf)) (fun w => absurd w (bad _ _ _ nf)) (fun w => absurd w (bad _ _ _ nf))
  · have hR : jnR t n q m ok = .inl (vfK t n q m, q) := by
      unfold jnR
      rw [if_pos c1]
    refine ⟨up2 (up2 X 156 3 (vfK t n q m)) 156 4 (tkS t n q : Int), ?_, rdF_bad, (bF _ _ _).1, (bF _ _ _).2, jmQ_bad hR rfl (up2_same _ _ _ _) c1⟩
    by_cases nf : nfK t n q 0 9999 = 0
    · have n2 := nh_y (d := d + 2) (lo := 0) (hi := 9999) hl0 hk h3 nf
      have hv3 : vfK t n q m = 3 ∧ m ≤ gsV t n q := by
        unfold vfK at c1 ⊢
        rw [if_neg (fun w => w nf)] at c1 ⊢
        by_cases e : m ≤ gsV t n q
        · exact ⟨if_pos e, e⟩
        · rw [if_neg e] at c1; exact absurd rfl c1
      have w3 := wr_y (d := d + 3) (k := 3) hl0 h3
      rw [e9] at w3
      rw [hv3.1]
      exact start _ _ _ n2 (fun _ _ => ⟨_, w3, w_X12_readsJoin_78 hl0 (fun w => absurd w (bad _ 3 _ (by decide))) (e1 := fun _ => rfl)⟩) (fun w => absurd (w h3) (by omega))
    · have n2 := nh_n (d := d + 2) (lo := 0) (hi := 9999) hl0 hk h3 nf
      have hv3 : vfK t n q m = nfK t n q 0 9999 := by unfold vfK; rw [if_pos nf]
      rw [hv3]
      exact start _ _ _ n2 (fun w => absurd w (bad _ _ _ nf)) (fun _ => w_X12_readsJoin_78 hl0 (fun w => absurd w (bad _ _ _ nf)) (e1 := fun _ => rfl))
end
end
