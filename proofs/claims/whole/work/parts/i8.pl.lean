/-! ===== tokens and deeds on sheets, the reference's ===== -/
noncomputable section
def TKm (J : Nat → Nat → Int) (t : Nat → Int) (n p : Nat) : Prop := J 156 6 = (n : Int) ∧ J 156 7 = (tkE t n p : Int) ∧ J 156 9 = (tkS t n p : Int) ∧ J 156 8 = msK (tkK t n p) ∧ J 156 10 = (tkE t n p : Int) - tkS t n p ∧ J 156 11 = gsV t n p ∧ J 156 12 = gsW t n p
theorem msK_1 {k : Int} : msK k = 1 ↔ k = 1 := by unfold msK; split <;> omega
theorem msK_2 {k : Int} : msK k = 2 ↔ k = 2 := by unfold msK; split <;> omega
theorem msK_3 {k : Int} : msK k = 3 ↔ k = 3 := by unfold msK; split <;> omega
theorem msK_0 {k : Int} : msK k = 0 ↔ k = 0 := by unfold msK; split <;> omega
theorem lcmp_0 {a b : Nat} (ha : a < 4611686018427387904) (hb : b < 4611686018427387904) : p_lcmp (a : Int) (b : Int) = 0 ↔ a = b := by
  have ea : (p_L (a : Int)).toInt = (a : Int) := by
    unfold p_L
    rw [Int64.toInt_ofInt, show Int64.size = 18446744073709551616 from rfl]
    exact Int.bmod_eq_of_le (by omega) (by omega)
  have eb : (p_L (b : Int)).toInt = (b : Int) := by
    unfold p_L
    rw [Int64.toInt_ofInt, show Int64.size = 18446744073709551616 from rfl]
    exact Int.bmod_eq_of_le (by omega) (by omega)
  unfold p_lcmp lg_cmp
  constructor
  · intro h
    by_cases q : p_L (a : Int) = p_L (b : Int)
    · have := congrArg Int64.toInt q
      rw [ea, eb] at this
      omega
    · rw [if_neg q] at h
      split at h
      · exact absurd h (by decide)
      · exact absurd h (by decide)
  · intro h
    subst h
    have : ¬(p_L (a : Int) > p_L (a : Int)) := by
      intro q
      have := Int64.lt_iff_toInt_lt.mp q
      omega
    rw [if_neg this, if_pos rfl]
    decide
section
variable {d : Nat} {I J : Nat → Nat → Int} {S : PS} {m n p : Nat} {adj : Nat → Nat → Bool} {t : Nat → Int}
theorem kw_M (hk : TKm J t n p) (hp : p ≤ n) : kwM J = wdK t n p := by
  obtain ⟨_, _, _, k8, k10, _, k12⟩ := hk
  have hin := tk_in t hp
  unfold kwM wdK
  by_cases c : tkK t n p = 1
  · rw [if_pos c]
    by_cases h5 : tkE t n p - tkS t n p ≤ 5
    · rw [if_pos ⟨by rw [k8]; exact msK_1.mpr c, by rw [k10]; omega⟩]
      refine fstB_congr (fun k hk13 => ?_)
      have hlt : ∀ j, j < tkE t n p - tkS t n p → 97 ≤ t (tkS t n p + j) ∧ t (tkS t n p + j) ≤ 122 := fun j hj => kdA_let ((tk_kind t (k := tkS t n p + j) (Or.inl c) (by omega) (by omega)).trans c)
      have hkw := kw_eq (t := t) (st := tkS t n p) (L := tkE t n p - tkS t n p) h5 hk13 hlt
      obtain ⟨m1, m2⟩ := mw_pk (t := t) (st := tkS t n p) (f := fun j => (t (tkS t n p + j) - 96).toNat) h5 (fun j hj => by have := hlt j hj; omega)
      have hw := (wL_ok ⟨k, hk13⟩).2.2
      have hl := let_wN ⟨k, hk13⟩
      dsimp only at hw hl
      have hp32 : (32 : Nat) ^ (tkE t n p - tkS t n p) ≤ 32 ^ 5 := Nat.pow_le_pow_right (by decide) h5
      unfold kwP
      rw [k12]
      unfold gsW
      rw [if_pos c, hl, m1]
      have e : p_lcmp (wN k : Int) (pkN (fun j => (t (tkS t n p + j) - 96).toNat) (tkE t n p - tkS t n p) : Int) = 0 ↔ wE t (tkS t n p) (tkE t n p - tkS t n p) k = true := by
        rw [lcmp_0 (by omega) (by omega), ← hkw, hl, m1]
        constructor
        · intro q; rw [q]
        · intro q; omega
      cases hE : wE t (tkS t n p) (tkE t n p - tkS t n p) k with
      | true => exact decide_eq_true (e.mpr hE)
      | false => exact decide_eq_false (fun q => by rw [e.mp q] at hE; cases hE)
    · rw [if_neg (fun q => by have := q.2; rw [k10] at this; omega)]
      refine (fst_none (fun k hk13 => ?_)).symm
      have hl := (wL_ok ⟨k, hk13⟩).2.1
      dsimp only at hl
      unfold wE
      rw [decide_eq_false (by omega), Bool.false_and]
  · rw [if_neg c, if_neg (fun q => c (msK_1.mp (k8.symm.trans q.1)))]
def gsK (k : Nat) : Prop := k = 7 ∨ k = 8 ∨ k = 9 ∨ k = 10 ∨ k = 11 ∨ k = 12
theorem go_M {q : Nat} (hl0 : LyX12 S) (ht : J 157 = t) (hb : ∀ k, 0 ≤ t k ∧ t k ≤ 255) (h6 : J 156 6 = (n : Int)) (h7 : J 156 7 = (q : Int)) (hn : n ≤ 700) (hq : q ≤ n) : Ca (d + 1) mX12_goes [vR (some (22, 0, 156))] (J, S) (.inl none) (gsI J, S) ∧ TKm (gsI J) t n q ∧ (∀ a, a ≠ 156 → gsI J a = J a) ∧ ∀ k, ¬gsK k → gsI J 156 k = J 156 k := by
  have e : gsI J = gsH J (tkE t n q) (tkS t n q) (gsW t n q) (gsV t n q) (tkK t n q) := by
    unfold gsI
    rw [ht, h6, h7, Int.toNat_natCast, Int.toNat_natCast]
  refine ⟨c_X12_goes hl0 (by omega) (by omega) (by rw [ht]; exact hb), ?_, fun a ha => ?_, fun k hk => ?_⟩
  · rw [e]
    exact ⟨h6, rfl, rfl, rfl, rfl, rfl, rfl⟩
  · rw [e]
    unfold gsH G4
    funext j
    rw [up2_a _ ha, up2_a _ ha, up2_a _ ha, up2_a _ ha, up2_a _ ha, up2_a _ ha]
  · unfold gsK at hk
    rw [e]
    unfold gsH G4
    rw [up2_k _ (by omega), up2_k _ (by omega), up2_k _ (by omega), up2_k _ (by omega), up2_k _ (by omega), up2_k _ (by omega)]
/-- a small number, or what is wrong with it -/
theorem sm_y (hl0 : LyX12 S) (ht : J 157 = t) (hb : ∀ k, 0 ≤ t k ∧ t k ≤ 255) (hk : TKm J t n p) (hn : n ≤ 700) (hp : p ≤ n) (h3 : J 156 3 = 0) (hnb : nbO t n p = true) : Ca (d + 4) mX12_smallNumber [vR (some (22, 0, 156))] (J, S) (.inl (some (vI (gsV t n p)))) (gsI J, S) := by
  have hin := tk_in t hp
  obtain ⟨a1, _⟩ := go_M (d := d + 2) (q := tkE t n p) hl0 ht hb hk.1 hk.2.1 hn hin.2.2.2
  unfold nbO at hnb
  rw [Bool.and_eq_true, decide_eq_true_iff, decide_eq_true_iff] at hnb
  have e8 : J 156 8 = 2 := hk.2.2.2.1.trans (msK_2.mpr hnb.1)
  have e10 : J 156 10 ≤ 4 := by rw [hk.2.2.2.2.1]; exact hnb.2
  exact w_X12_smallNumber_0 hl0 (fun _ q => absurd e8 q) (fun _ _ _ => w_X12_smallNumber_30 (J1 := gsI J) hl0 (fun _ => a1) (fun q => absurd h3 q) (r2 := fun _ => hk.2.2.2.2.2.1) (e1 := fun q => absurd h3 q) (e2 := fun _ => rfl)) (fun _ _ q => absurd q (by omega)) (fun q => absurd h3 q) (e1 := fun q => absurd h3 q)
theorem sm_n (hl0 : LyX12 S) (hk : TKm J t n p) (h3 : J 156 3 = 0) (hnb : ¬nbO t n p = true) : Ca (d + 4) mX12_smallNumber [vR (some (22, 0, 156))] (J, S) (.inl (some (vI (J 156 11)))) (up2 (up2 J 156 3 1) 156 4 (tkS t n p : Int), S) := by
  have hif : (if J 156 3 = 0 then (up2 (up2 J 156 3 1) 156 4 (J 156 9)) else J) = up2 (up2 J 156 3 1) 156 4 (tkS t n p : Int) := by rw [if_pos h3, hk.2.2.1]
  have e3 : ¬((up2 (up2 J 156 3 1) 156 4 (tkS t n p : Int)) 156 3 = 0) := by
    show ¬((1 : Int) = 0)
    decide
  have fin : L_X12_smallNumber_30 d 156 (up2 (up2 J 156 3 1) 156 4 (tkS t n p : Int)) S (J 156 11) (up2 (up2 J 156 3 1) 156 4 (tkS t n p : Int), S) := w_X12_smallNumber_30 (J1 := J) hl0 (fun q => absurd q e3) (fun _ => rfl) (r2 := fun q => absurd q e3) (e1 := fun _ => rfl) (e2 := fun q => absurd q e3)
  refine w_X12_smallNumber_0 hl0 (fun _ _ => by rw [hif]; exact fin) (fun _ q1 q2 => absurd ?_ hnb) (fun _ _ _ => by rw [hif]; exact fin) (fun q => absurd h3 q) (e1 := fun q => absurd h3 q)
  unfold nbO
  rw [Bool.and_eq_true, decide_eq_true_iff, decide_eq_true_iff]
  exact ⟨msK_2.mp (hk.2.2.2.1.symm.trans q1), by rw [hk.2.2.2.2.1] at q2; exact q2⟩
theorem sm_0 (hl0 : LyX12 S) (h3 : ¬J 156 3 = 0) : Ca (d + 4) mX12_smallNumber [vR (some (22, 0, 156))] (J, S) (.inl (some (vI 0))) (J, S) :=
  w_X12_smallNumber_0 hl0 (fun q => absurd q h3) (fun q => absurd q h3) (fun q => absurd q h3) (fun _ => rfl) (e1 := fun _ => rfl)
/-- the reference's sheets -/
def mlR (J : Nat → Nat → Int) (m : Nat) (x : PT) : Prop := (∀ i, i < m → gR J 18 i = x.1 i) ∧ J 156 50 = (x.2.1 : Int) ∧ (∀ j, 1 ≤ j → j < x.2.1 → ∀ i, i < m → J 184 (12 * (j - 1) + i) = x.2.2.1 j i) ∧ (∀ j, j < x.2.1 → J 185 j = x.2.2.2.1 j) ∧ J 156 48 = x.2.2.2.2.1 ∧ J 156 49 = x.2.2.2.2.2.1 ∧ J 186 2 = x.2.2.2.2.2.2
def dfF (I J : Nat → Nat → Int) : Prop := (∀ a, a ≠ 178 → a ≠ 184 → a ≠ 185 → a ≠ 186 → a ≠ 156 → J a = I a) ∧ (∀ i, i < 18 → J 178 i = I 178 i) ∧ (∀ k, k ≠ 2 → J 186 k = I 186 k) ∧ ∀ k, k ≠ 48 → k ≠ 49 → k ≠ 50 → J 156 k = I 156 k
theorem df_M {w c : Int} {s : Nat} {x : PT} (hl0 : LyX12 S) (hA : mAd I m adj) (hx : mlR I m x) (ho : ptO m x) (hw : 8 ≤ w ∧ w ≤ 12) (hev : 0 ≤ x.2.2.2.2.1 ∧ x.2.2.2.2.1 ≤ 1000000) : ∃ J, Ca (d + 4) mX12_isDone [vR (some (22, 0, 156)), vI w, vI (s : Int), vI c] (I, S) (.inl (some (vI (if (plF adj m w (s : Int) c x).isSome = true then 1 else 0)))) (J, S) ∧ dfF I J ∧ mlR J m ((plF adj m w (s : Int) c x).getD x) := by
  obtain ⟨g, ly, rw', no, ev, la, mo⟩ := x
  obtain ⟨c1, c2, c3, c4, c5, c6, c7⟩ := hx
  obtain ⟨o1, o2, o3, o4, o5⟩ := ho
  dsimp only at *
  have hm12 := hA.2.1
  have r0 : dfF I I := ⟨fun _ _ _ _ _ _ => rfl, fun _ _ => rfl, fun _ _ => rfl, fun _ _ _ _ => rfl⟩
  by_cases w11 : w = 11
  · subst w11
    by_cases h8 : ly = 8
    · have hF : plF adj m 11 (s : Int) c (g, ly, rw', no, ev, la, mo) = none := by unfold plF; rw [if_pos rfl, if_pos h8]
      rw [hF]
      exact ⟨I, w_X12_isDone_0 hl0 (v6 := fun q => absurd q (by decide)) (v13 := fun q => absurd q (by decide)) (v14 := fun q => absurd q (by decide)), r0, c1, c2, c3, c4, c5, c6, c7⟩
    · have hF : plF adj m 11 (s : Int) c (g, ly, rw', no, ev, la, mo) = some (g, ly + 1, up1 rw' ly g, up1 no ly ev, ev + 1, la, max mo ((ly : Int) + 1)) := by unfold plF; rw [if_pos rfl, if_neg h8]
      rw [hF]
      have hls : lsI I = up2 (up2 (up2 (up2 (up1 I 184 (upTo (I 184) (fun j => I 178 (18 + (j - 12 * (ly - 1)))) (12 * (ly - 1)) 12)) 185 ly ev) 156 48 (ev + 1)) 156 50 ((ly : Int) + 1)) 186 2 (max mo ((ly : Int) + 1)) := by
        unfold lsI
        rw [if_pos (by omega), c2, c5, c7, Int.toNat_natCast, show (12 * ((ly : Int) - 1)).toNat = 12 * (ly - 1) by omega, show (if (ly : Int) + 1 ≤ mo then mo else (ly : Int) + 1) = max mo ((ly : Int) + 1) by split <;> omega]
      refine ⟨lsI I, w_X12_isDone_0 hl0 (v6 := fun q => absurd q (by decide)) (v13 := fun q => absurd q (by decide)) (v14 := fun q => absurd q (by decide)), ?_, ?_⟩
      · rw [hls]
        refine ⟨fun a h1 h2 h3 h4 h5 => ?_, fun i hi => rfl, fun k hk => by rw [up2_k _ hk]; rfl, fun k h1 h2 h3 => ?_⟩
        · funext j
          rw [up2_a _ h4, up2_a _ h5, up2_a _ h5, up2_a _ h3, up1_o _ h2]
        · rw [up2_a _ (by decide), up2_k _ h3, up2_k _ h1]
          rfl
      · rw [hls]
        refine ⟨fun i hi => c1 i hi, rfl, fun j h1 hj i hi => ?_, fun j hj => ?_, rfl, c6, rfl⟩
        · have hj : j < ly + 1 := hj
          show upTo (I 184) (fun j => I 178 (18 + (j - 12 * (ly - 1)))) (12 * (ly - 1)) 12 (12 * (j - 1) + i) = up1 rw' ly g j i
          by_cases q : j = ly
          · rw [q, up1_same, upTo_in (by omega), ← c1 i hi, gR_18]
            congr 1
            omega
          · rw [up1_o _ q, upTo_out (by omega)]
            exact c3 j h1 (by omega) i hi
        · have hj : j < ly + 1 := hj
          rw [up2_a _ (by decide), up2_a _ (by decide), up2_a _ (by decide)]
          show up2 _ 185 ly ev 185 j = up1 no ly ev j
          by_cases q : j = ly
          · rw [q, up2_same, up1_same]
          · rw [up2_k _ q, up1_o _ q]
            exact c4 j (by omega)
  by_cases w12 : w = 12
  · subst w12
    by_cases h8 : ly ≤ 1
    · have hF : plF adj m 12 (s : Int) c (g, ly, rw', no, ev, la, mo) = none := by unfold plF; rw [if_neg (by decide), if_pos rfl, if_pos h8]
      rw [hF]
      exact ⟨I, w_X12_isDone_0 hl0 (v6 := fun q => absurd q (by decide)) (v13 := fun q => absurd q (by decide)) (v14 := fun q => absurd q (by decide)), r0, c1, c2, c3, c4, c5, c6, c7⟩
    · have hF : plF adj m 12 (s : Int) c (g, ly, rw', no, ev, la, mo) = some (rw' (ly - 1), ly - 1, rw', no, ev, no (ly - 1), mo) := by unfold plF; rw [if_neg (by decide), if_pos rfl, if_neg h8]
      rw [hF]
      have hto : toI I = up1 (up2 (up2 I 156 50 ((ly - 1 : Nat) : Int)) 156 49 (no (ly - 1))) 178 (upTo (I 178) (fun j => I 184 (12 * (ly - 2) + (j - 18))) 18 12) := by
        unfold toI
        rw [if_pos (by omega), c2, show ((ly : Int) - 1).toNat = ly - 1 by omega, c4 (ly - 1) (by omega), show (ly : Int) - 1 = ((ly - 1 : Nat) : Int) by omega, show (12 * ((ly : Int) - 2)).toNat = 12 * (ly - 2) by omega]
      refine ⟨toI I, w_X12_isDone_0 hl0 (v6 := fun q => absurd q (by decide)) (v13 := fun q => absurd q (by decide)) (v14 := fun q => absurd q (by decide)), ?_, ?_⟩
      · rw [hto]
        refine ⟨fun a h1 h2 h3 h4 h5 => ?_, fun i hi => ?_, fun k hk => rfl, fun k h1 h2 h3 => ?_⟩
        · rw [up1_o _ h1]
          funext j
          rw [up2_a _ h5, up2_a _ h5]
        · rw [up1_same, upTo_out (by omega)]
        · show up2 (up2 I 156 50 ((ly - 1 : Nat) : Int)) 156 49 (no (ly - 1)) 156 k = _
          rw [up2_k _ h2, up2_k _ h3]
      · rw [hto]
        refine ⟨fun i hi => ?_, rfl, fun j h1 hj i hi => ?_, fun j hj => ?_, c5, rfl, c7⟩
        · rw [gR_18, up1_same, upTo_in (by omega)]
          have := c3 (ly - 1) (by omega) (by omega) i hi
          show I 184 (12 * (ly - 2) + (18 + i - 18)) = rw' (ly - 1) i
          rw [← this]
          congr 1
          omega
        · have hj : j < ly - 1 := hj
          exact c3 j h1 (by omega) i hi
        · have hj : j < ly - 1 := hj
          exact c4 j (by omega)
  · have hokI : rOk (gR I 18) m := fun i hi => by rw [c1 i hi]; exact o1 i hi
    have hcg := dd_congr (adj := adj) (how := w - 8) (s := (s : Int)) (c := c) c1
    have hF : plF adj m w (s : Int) c (g, ly, rw', no, ev, la, mo) = if (ddS adj m g (w - 8) (s : Int) c).isSome = true then some ((ddS adj m g (w - 8) (s : Int) c).getD g, (ly, rw', no, ev, la, mo)) else none := by unfold plF; rw [if_neg w11, if_neg w12]
    have hS : (plF adj m w (s : Int) c (g, ly, rw', no, ev, la, mo)).isSome = (ddS adj m g (w - 8) (s : Int) c).isSome := by
      rw [hF]
      cases (ddS adj m g (w - 8) (s : Int) c).isSome <;> rfl
    obtain ⟨J, a1, a2, a3, _, a5⟩ := dn_M (d := d) (S := S) (I := I) (x1 := w) (c := c) (k := s) hl0 hA hokI (by omega)
    rw [hcg.1] at a1
    rw [hS]
    refine ⟨J, a1, ⟨fun a h1 _ _ _ _ => a2 a h1, a3, fun k _ => by rw [a2 186 (by decide)], fun k _ _ _ => by rw [a2 156 (by decide)]⟩, ?_⟩
    have hg : ∀ i, i < m → gR J 18 i = (ddS adj m g (w - 8) (s : Int) c).getD g i := fun i hi => by rw [a5 i hi]; exact hcg.2 i hi
    rw [hF]
    cases hd : ddS adj m g (w - 8) (s : Int) c with
    | none =>
      rw [hd] at hg
      exact ⟨hg, by rw [a2 156 (by decide)]; exact c2, fun j h1 h2 i hi => by rw [a2 184 (by decide)]; exact c3 j h1 h2 i hi, fun j hj => by rw [a2 185 (by decide)]; exact c4 j hj, by rw [a2 156 (by decide)]; exact c5, by rw [a2 156 (by decide)]; exact c6, by rw [a2 186 (by decide)]; exact c7⟩
    | some g' =>
      rw [hd] at hg
      exact ⟨hg, by rw [a2 156 (by decide)]; exact c2, fun j h1 h2 i hi => by rw [a2 184 (by decide)]; exact c3 j h1 h2 i hi, fun j hj => by rw [a2 185 (by decide)]; exact c4 j hj, by rw [a2 156 (by decide)]; exact c5, by rw [a2 156 (by decide)]; exact c6, by rw [a2 186 (by decide)]; exact c7⟩
end
end
