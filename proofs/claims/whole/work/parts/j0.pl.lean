/-! ===== a step of a plan, the reference's, whole ===== -/
noncomputable section
section
variable {d : Nat} {I J K : Nat → Nat → Int} {S : PS} {m n p q : Nat} {adj : Nat → Nat → Bool} {t : Nat → Int} {x : PT}
/-- what is known of the reference while a step is read -/
def rdO (t : Nat → Int) (n : Nat) (adj : Nat → Nat → Bool) (m q : Nat) (x : PT) (J K : Nat → Nat → Int) : Prop := K 157 = t ∧ TKm K t n q ∧ mAd K m adj ∧ K 156 3 = 0 ∧ K 156 55 = -1 ∧ K 156 4 = J 156 4 ∧ K 156 51 = J 156 51 ∧ mlR K m x
theorem rd_go (hl0 : LyX12 S) (hb : ∀ k, 0 ≤ t k ∧ t k ≤ 255) (hn : n ≤ 700) (hq : q ≤ n) (h : rdO t n adj m q x J K) : Ca (d + 1) mX12_goes [vR (some (22, 0, 156))] (K, S) (.inl none) (gsI K, S) ∧ rdO t n adj m (tkE t n q) x J (gsI K) ∧ spF K (gsI K) := by
  obtain ⟨h1, h2, h3, h4, h5, h6, h7, h8⟩ := h
  have hin := tk_in t hq
  obtain ⟨b1, b2, b3, b4⟩ := go_M (d := d) (J := K) (t := t) (n := n) (q := tkE t n q) hl0 h1 hb h2.1 h2.2.1 hn hin.2.2.2
  have hF : spF K (gsI K) := spF_156 b3 (fun k hk' => b4 k (fun e => hk' (by unfold stK; exact Or.inr (Or.inr (Or.inl e)))))
  exact ⟨b1, ⟨by rw [b3 157 (by decide)]; exact h1, b2, mAd_sp h3 hF, by rw [b4 3 (by unfold gsK; omega)]; exact h4, by rw [b4 55 (by unfold gsK; omega)]; exact h5, by rw [b4 4 (by unfold gsK; omega)]; exact h6, by rw [b4 51 (by unfold gsK; omega)]; exact h7, mlR_of h8 b3 (fun k hk' => b4 k (by unfold gsK; omega))⟩, hF⟩
theorem rd_sm (hl0 : LyX12 S) (hb : ∀ k, 0 ≤ t k ∧ t k ≤ 255) (hn : n ≤ 700) (hq : q ≤ n) (h : rdO t n adj m q x J K) (hnb : nbO t n q = true) : Ca (d + 4) mX12_smallNumber [vR (some (22, 0, 156))] (K, S) (.inl (some (vI (gsV t n q)))) (gsI K, S) := sm_y hl0 h.1 hb h.2.1 hn hq h.2.2.2.1 hnb
/-- broken off at a number -/
theorem rd_bad (hW : 8 ≤ wdK t n p) (h : rdO t n adj m q x J K) (hB : plB t n (tkE t n p) (wdK t n p) = (tkS t n q : Int)) : spF K (up2 (up2 K 156 3 1) 156 4 (tkS t n q : Int)) ∧ spP t n adj m p x J (up2 (up2 K 156 3 1) 156 4 (tkS t n q : Int)) := by
  obtain ⟨h1, h2, h3, h4, h5, h6, h7, h8⟩ := h
  refine ⟨?_, spP_brk hW hB (by omega) (by show ¬((1 : Int) = 0); decide) (wr_ml h8) (by rw [up2_k _ (by decide), up2_k _ (by decide)]; exact h7) (up2_same _ _ _ _) (by rw [up2_k _ (by decide), up2_k _ (by decide)]; exact h5)⟩
  rw [← h2.2.2.1]
  exact wr_F
theorem n2_M (hl0 : LyX12 S) (hb : ∀ k, 0 ≤ t k ∧ t k ≤ 255) (hn : n ≤ 700) (hq : q ≤ n) (hqp : q = tkE t n p) (h : rdO t n adj m q x J K) (h51b : 0 ≤ J 156 51 ∧ J 156 51 ≤ 1000000) (ho : ptO m x) (hev : 0 ≤ x.2.2.2.2.1 ∧ x.2.2.2.2.1 ≤ 1000000) (hW : wdK t n p = 8 ∨ wdK t n p = 10) :
    ∃ z3 J3 z4 J4 J', Ca (d + 5) mX12_smallNumber [vR (some (22, 0, 156))] (K, S) (.inl (some (vI z3))) (J3, S) ∧ Ca (d + 5) mX12_smallNumber [vR (some (22, 0, 156))] (J3, S) (.inl (some (vI z4))) (J4, S) ∧ (¬(J4 156 3 = 0) → L_X12_stepOf_90 d 156 (tkS t n p : Int) (wdK t n p) z3 z4 J4 S (J', S)) ∧ (J4 156 3 = 0 → J4 156 8 = 3 → L_X12_stepOf_90 d 156 (tkS t n p : Int) (wdK t n p) z3 z4 J4 S (J', S)) ∧ (J4 156 3 = 0 → J4 156 8 ≠ 3 → L_X12_stepOf_90 d 156 (tkS t n p : Int) (wdK t n p) z3 z4 (if J4 156 3 = 0 then (up2 (up2 J4 156 3 1) 156 4 (J4 156 9)) else J4) S (J', S)) ∧ spF K J' ∧ spP t n adj m p x J J' := by
  have hin := tk_in t hq
  have hin2 := tk_in t hin.2.2.2
  have uB : plB t n (tkE t n p) (wdK t n p) = if nbO t n q = true then (if nbO t n (tkE t n q) = true then (if tkK t n (tkE t n (tkE t n q)) = 3 then -1 else (tkS t n (tkE t n (tkE t n q)) : Int)) else (tkS t n (tkE t n q) : Int)) else (tkS t n q : Int) := by rw [← hqp]; unfold plB; rw [if_pos hW]
  by_cases n1 : nbO t n q = true
  · rw [if_pos n1] at uB
    obtain ⟨_, g2, g3⟩ := rd_go (d := d) hl0 hb hn hq h
    have a1 := rd_sm (d := d + 1) hl0 hb hn hq h n1
    by_cases n2 : nbO t n (tkE t n q) = true
    · rw [if_pos n2] at uB
      obtain ⟨_, k2, k3⟩ := rd_go (d := d) hl0 hb hn hin.2.2.2 g2
      have a2 := rd_sm (d := d + 1) hl0 hb hn hin.2.2.2 g2 n2
      obtain ⟨m1, m2, m3, m4, m5, m6, m7, m8⟩ := k2
      have v1 := gsV_in (t := t) (n := n) (p := q)
      obtain ⟨s, hs⟩ : ∃ s : Nat, gsV t n q = (s : Int) := ⟨(gsV t n q).toNat, by omega⟩
      obtain ⟨J', e1, e2, e3, e4⟩ := en_M (d := d) (J := J) (p := p) (q2 := tkE t n (tkE t n q)) (s := s) (c := gsV t n (tkE t n q)) hl0 m1 hb hn hin2.2.2.2 m2 m3 m4 m5 m6 m7 h51b m8 ho hev (by omega) (by rw [← hqp]; unfold plQ; rw [if_pos hW]) uB (by rw [← hqp]; unfold plU; rw [if_pos (by omega)]; exact hs) (by rw [← hqp]; unfold plV; rw [if_pos hW])
      rw [← hs] at e1 e2
      exact ⟨gsV t n q, gsI K, gsV t n (tkE t n q), gsI (gsI K), J', a1, a2, fun w => absurd m4 w, fun _ => e1, fun _ => e2, spF_trans g3 (spF_trans k3 e3), e4⟩
    · rw [if_neg n2] at uB
      have a2 := sm_n (d := d + 1) hl0 g2.2.1 g2.2.2.2.1 n2
      obtain ⟨b1, b2⟩ := rd_bad (by omega) g2 uB
      exact ⟨gsV t n q, gsI K, _, _, _, a1, a2, fun _ => eb_M hl0, fun w => absurd w (by show ¬((1 : Int) = 0); decide), fun w => absurd w (by show ¬((1 : Int) = 0); decide), spF_trans g3 b1, b2⟩
  · rw [if_neg n1] at uB
    have a1 := sm_n (d := d + 1) hl0 h.2.1 h.2.2.2.1 n1
    obtain ⟨b1, b2⟩ := rd_bad (by omega) h uB
    exact ⟨_, _, _, _, _, a1, sm_0 (d := d + 1) hl0 (by show ¬((1 : Int) = 0); decide), fun _ => eb_M hl0, fun w => absurd w (by show ¬((1 : Int) = 0); decide), fun w => absurd w (by show ¬((1 : Int) = 0); decide), b1, b2⟩
theorem n1_M (hl0 : LyX12 S) (hb : ∀ k, 0 ≤ t k ∧ t k ≤ 255) (hn : n ≤ 700) (hq : q ≤ n) (hqp : q = tkE t n p) (h : rdO t n adj m q x J K) (h51b : 0 ≤ J 156 51 ∧ J 156 51 ≤ 1000000) (ho : ptO m x) (hev : 0 ≤ x.2.2.2.2.1 ∧ x.2.2.2.2.1 ≤ 1000000) (hW : wdK t n p = 9) :
    ∃ z3 J3 J', Ca (d + 5) mX12_smallNumber [vR (some (22, 0, 156))] (K, S) (.inl (some (vI z3))) (J3, S) ∧ (¬(J3 156 3 = 0) → L_X12_stepOf_90 d 156 (tkS t n p : Int) (wdK t n p) z3 0 J3 S (J', S)) ∧ (J3 156 3 = 0 → J3 156 8 = 3 → L_X12_stepOf_90 d 156 (tkS t n p : Int) (wdK t n p) z3 0 J3 S (J', S)) ∧ (J3 156 3 = 0 → J3 156 8 ≠ 3 → L_X12_stepOf_90 d 156 (tkS t n p : Int) (wdK t n p) z3 0 (if J3 156 3 = 0 then (up2 (up2 J3 156 3 1) 156 4 (J3 156 9)) else J3) S (J', S)) ∧ spF K J' ∧ spP t n adj m p x J J' := by
  have hin := tk_in t hq
  have hW2 : ¬(wdK t n p = 8 ∨ wdK t n p = 10) := by omega
  have uB : plB t n (tkE t n p) (wdK t n p) = if nbO t n q = true then (if tkK t n (tkE t n q) = 3 then -1 else (tkS t n (tkE t n q) : Int)) else (tkS t n q : Int) := by rw [← hqp]; unfold plB; rw [if_neg hW2, if_pos hW]
  by_cases n1 : nbO t n q = true
  · rw [if_pos n1] at uB
    obtain ⟨_, g2, g3⟩ := rd_go (d := d) hl0 hb hn hq h
    have a1 := rd_sm (d := d + 1) hl0 hb hn hq h n1
    obtain ⟨m1, m2, m3, m4, m5, m6, m7, m8⟩ := g2
    have v1 := gsV_in (t := t) (n := n) (p := q)
    obtain ⟨s, hs⟩ : ∃ s : Nat, gsV t n q = (s : Int) := ⟨(gsV t n q).toNat, by omega⟩
    obtain ⟨J', e1, e2, e3, e4⟩ := en_M (d := d) (J := J) (p := p) (q2 := tkE t n q) (s := s) (c := 0) hl0 m1 hb hn hin.2.2.2 m2 m3 m4 m5 m6 m7 h51b m8 ho hev (by omega) (by rw [← hqp]; unfold plQ; rw [if_neg hW2, if_pos hW]) uB (by rw [← hqp]; unfold plU; rw [if_pos (by omega)]; exact hs) (by rw [← hqp]; unfold plV; rw [if_neg hW2])
    rw [← hs] at e1 e2
    exact ⟨gsV t n q, gsI K, J', a1, fun w => absurd m4 w, fun _ => e1, fun _ => e2, spF_trans g3 e3, e4⟩
  · rw [if_neg n1] at uB
    have a1 := sm_n (d := d + 1) hl0 h.2.1 h.2.2.2.1 n1
    obtain ⟨b1, b2⟩ := rd_bad (by omega) h uB
    exact ⟨_, _, _, a1, fun _ => eb_M hl0, fun w => absurd w (by show ¬((1 : Int) = 0); decide), fun w => absurd w (by show ¬((1 : Int) = 0); decide), b1, b2⟩
theorem st_M (hl0 : LyX12 S) (hb : ∀ k, 0 ≤ t k ∧ t k ≤ 255) (hn : n ≤ 700) (hp : p ≤ n) (h : rdO t n adj m p x J J) (h51b : 0 ≤ J 156 51 ∧ J 156 51 ≤ 1000000) (ho : ptO m x) (hev : 0 ≤ x.2.2.2.2.1 ∧ x.2.2.2.2.1 ≤ 1000000) : ∃ J', Ca (d + 6) mX12_stepOf [vR (some (22, 0, 156))] (J, S) (.inl none) (J', S) ∧ spF J J' ∧ spP t n adj m p x J J' := by
  have hWi := wdK_in t n p
  have hin := tk_in t hp
  have ekw := kw_M h.2.1 hp
  have e9 := h.2.1.2.2.1
  have h3 := h.2.2.2.1
  by_cases hW : wdK t n p < 8
  · have hN : plN t n adj m p x = .inl (tkS t n p : Int) := by unfold plN; rw [if_pos hW]
    have hbad : ¬((up2 (up2 J 156 3 1) 156 4 (J 156 9)) 156 3 = 0) := by show ¬((1 : Int) = 0); decide
    refine ⟨up2 (up2 J 156 3 1) 156 4 (J 156 9), w_X12_stepOf_0 hl0 (fun w => absurd w (by rw [ekw]; omega)) (fun _ => by rw [wr_eq h3]; exact w_X12_stepOf_21 hl0 (fun w => absurd w hbad) (e1 := fun _ => rfl)), wr_F, fun b e => ?_, fun p' x' e => ?_⟩
    · rw [hN] at e
      cases e
      have h55 : (up2 (up2 J 156 3 1) 156 4 (J 156 9)) 156 55 = -1 := by rw [up2_k _ (by decide), up2_k _ (by decide)]; exact h.2.2.2.2.1
      exact ⟨hbad, wr_ml h.2.2.2.2.2.2.2, by rw [up2_k _ (by decide), up2_k _ (by decide)], by rw [if_pos h55, up2_same]; exact e9⟩
    · rw [hN] at e; cases e
  · obtain ⟨b1, b2, b3⟩ := rd_go (d := d + 4) hl0 hb hn hp h
    have fin : ∀ J', L_X12_stepOf_33 d 156 (tkS t n p : Int) (wdK t n p) (gsI J) S (J', S) → Ca (d + 6) mX12_stepOf [vR (some (22, 0, 156))] (J, S) (.inl none) (J', S) := fun J' k => by
      refine w_X12_stepOf_0 hl0 (fun _ => ?_) (fun w => absurd w (by rw [ekw]; omega))
      rw [ekw, e9]
      exact w_X12_stepOf_21 hl0 (fun _ => w_X12_stepOf_29 hl0 b1 k) (e1 := fun w => absurd h3 w)
    by_cases w2 : wdK t n p = 8 ∨ wdK t n p = 10
    · obtain ⟨z3, J3, z4, J4, J', c1, c2, c3, c4, c5, c6, c7⟩ := n2_M (d := d) hl0 hb hn hin.2.2.2 rfl b2 h51b ho hev w2
      refine ⟨J', fin J' ?_, spF_trans b3 c6, c7⟩
      exact w_X12_stepOf_33 (J1 := J) (J2 := J) (J3 := J3) (J4 := J4) (J5 := J4) (z1 := 0) (z2 := 0) (z3 := z3) (z4 := z4) (z5 := z4) hl0 (fun w => absurd w (by omega)) (fun w => absurd w (by omega)) (fun w => absurd w (by omega)) (fun w => absurd w (by omega)) (fun w => absurd w (by omega)) (fun w => absurd w (by omega)) (fun w => absurd w (by omega)) (fun w => absurd w (by omega)) (fun w => absurd w (by omega)) (fun w => absurd w (by omega)) (fun w => absurd w (by omega)) (fun _ => c1) (fun _ _ => c2) (fun _ _ => c3) (fun _ _ => c4) (fun _ _ => c5) (fun _ w1 w2 => absurd w1 (by omega)) (fun _ w1 w2 => absurd w1 (by omega)) (fun _ w1 w2 => absurd w1 (by omega)) (fun _ _ _ => c2) (fun _ _ _ => c3) (fun _ _ _ => c4) (fun _ _ _ => c5)
    by_cases w9 : wdK t n p = 9
    · obtain ⟨z3, J3, J', c1, c3, c4, c5, c6, c7⟩ := n1_M (d := d) hl0 hb hn hin.2.2.2 rfl b2 h51b ho hev w9
      refine ⟨J', fin J' ?_, spF_trans b3 c6, c7⟩
      exact w_X12_stepOf_33 (J1 := J) (J2 := J) (J3 := J3) (J4 := J) (J5 := J) (z1 := 0) (z2 := 0) (z3 := z3) (z4 := 0) (z5 := 0) hl0 (fun w => absurd w (by omega)) (fun w => absurd w (by omega)) (fun w => absurd w (by omega)) (fun w => absurd w (by omega)) (fun w => absurd w (by omega)) (fun w => absurd w (by omega)) (fun w => absurd w (by omega)) (fun w => absurd w (by omega)) (fun w => absurd w (by omega)) (fun w => absurd w (by omega)) (fun w => absurd w (by omega)) (fun _ => c1) (fun _ w => absurd w (by omega)) (fun _ w => absurd w (by omega)) (fun _ w => absurd w (by omega)) (fun _ w => absurd w (by omega)) (fun _ _ _ => c3) (fun _ _ _ => c4) (fun _ _ _ => c5) (fun _ _ w => absurd w (by omega)) (fun _ _ w => absurd w (by omega)) (fun _ _ w => absurd w (by omega)) (fun _ _ w => absurd w (by omega))
    · obtain ⟨m1, m2, m3, m4, m5, m6, m7, m8⟩ := b2
      obtain ⟨J', e1, e2, e3, e4⟩ := en_M (d := d) (J := J) (p := p) (q2 := tkE t n p) (s := 0) (c := 0) hl0 m1 hb hn hin.2.2.2 m2 m3 m4 m5 m6 m7 h51b m8 ho hev (by omega) (by unfold plQ; rw [if_neg w2, if_neg w9]) (by unfold plB; rw [if_neg w2, if_neg w9]) (by unfold plU; rw [if_neg (by omega)]; rfl) (by unfold plV; rw [if_neg w2])
      refine ⟨J', fin J' ?_, spF_trans b3 e3, e4⟩
      exact w_X12_stepOf_33 (J1 := J) (J2 := J) (J3 := J) (J4 := J) (J5 := J) (z1 := 0) (z2 := 0) (z3 := 0) (z4 := 0) (z5 := 0) hl0 (fun _ w => absurd w (by omega)) (fun _ w => absurd w (by omega)) (fun _ w => absurd w (by omega)) (fun _ w => absurd w (by omega)) (fun _ _ _ w => absurd m4 w) (fun _ _ _ _ => e1) (fun _ _ _ _ => e2) (fun _ _ w => absurd w (by omega)) (fun _ _ w => absurd w (by omega)) (fun _ _ w => absurd w (by omega)) (fun _ _ w => absurd w (by omega)) (fun w => absurd w (by omega)) (fun w => absurd w (by omega)) (fun w => absurd w (by omega)) (fun w => absurd w (by omega)) (fun w => absurd w (by omega)) (fun w => absurd w (by omega)) (fun w => absurd w (by omega)) (fun w => absurd w (by omega)) (fun w => absurd w (by omega)) (fun w => absurd w (by omega)) (fun w => absurd w (by omega)) (fun w => absurd w (by omega))
end
end
