/-! ===== a rule is read: the reference's ===== -/
noncomputable section
/-- a rule, from the token behind its word: what is wrong and where, or the place behind and the eight numbers -/
def ruP (t : Nat → Int) (n q : Nat) : (Int × Nat) ⊕ (Nat × (Nat → Int)) :=
  if nfK t n q 1 99 ≠ 0 then .inl (nfK t n q 1 99, q) else
  if wdK t n (tkE t n q) ≠ 3 then .inl (1, tkE t n q) else
  match rgP t n (tkE t n (tkE t n q)) with
  | .inl e => .inl e
  | .inr (a, b, q2) => if wdK t n q2 ≠ 4 then .inl (1, q2) else
    match rgP t n (tkE t n q2) with
    | .inl e => .inl e
    | .inr (c, e, q3) => if wdK t n q3 = 5 ∨ wdK t n q3 = 6 then
        match rgP t n (tkE t n q3) with
        | .inl e => .inl e
        | .inr (f, g, q4) => .inr (q4, fun k => ([gsV t n q, a, b, c, e, f, g, (if wdK t n q3 = 5 then 1 else 2)] : List Int).getD k 0)
      else .inr (q3, fun k => ([gsV t n q, a, b, c, e] : List Int).getD k 0)
section
variable {d : Nat} {I J K X : Nat → Nat → Int} {S : PS} {U n N R q x : Nat} {t A : Nat → Int} {lo hi : Int}
theorem flR_rd (h : flR J K) : rdF J K := ⟨fun a _ _ h3 _ _ => h.2 a h3, fun k _ => by rw [h.1], erR_eq (by rw [h.1]) (by rw [h.1])⟩
theorem rr_M (hl0 : LyX12 S) (hb : ∀ k, 0 ≤ t k ∧ t k ≤ 255) (hn : n ≤ 700) (hq : q ≤ n) (ht : J 157 = t) (hk : TKm J t n q) (h3 : J 156 3 = 0) (hx : x < 47) : ∃ J', Ca (d + 4) mX12_readsRange [vR (some (22, 0, 156)), vI (x : Int)] (J, S) (.inl none) (J', S) ∧ rdF J J' ∧ (∀ a, a ≠ 156 → a ≠ 163 → J' a = J a) ∧ (∀ k, ¬(k = 3 ∨ k = 4 ∨ gsK k) → J' 156 k = J 156 k) ∧ (∀ k, k ≠ x → k ≠ x + 1 → J' 163 k = J 163 k) ∧ (∀ k q', rgP t n q = .inl (k, q') → J' 156 3 = k ∧ J' 156 4 = (tkS t n q' : Int)) ∧ ∀ a b q', rgP t n q = .inr (a, b, q') → J' 156 3 = 0 ∧ J' 163 x = a ∧ J' 163 (x + 1) = b ∧ TKm J' t n q' := by
  have hin := tk_in t hq
  have ex : ((x : Int)).toNat = x := Int.toNat_natCast x
  have ex1 : ((x : Int) + 1).toNat = x + 1 := by omega
  unfold rgP
  by_cases c : nfK t n q 3 9 = 0
  · obtain ⟨g1, g2, g3, g4, g5⟩ := nu_y (d := d) hl0 ht hb hk hn hq h3 c
    have z156 : (up2 (gsI J) 163 x (gsV t n q)) 156 = gsI J 156 := funext (fun k => up2_a _ (by decide))
    have hk2 : TKm (up2 (gsI J) 163 x (gsV t n q)) t n (tkE t n q) := by unfold TKm; rw [z156]; exact g2
    have h32 : (up2 (gsI J) 163 x (gsV t n q)) 156 3 = 0 := by rw [z156, g5 3 (by unfold gsK; omega)]; exact h3
    have ht2 : (up2 (gsI J) 163 x (gsV t n q)) 157 = t := by rw [← ht]; funext k; rw [up2_a _ (by decide), g4 157 (by decide)]
    rw [if_neg (fun w => w c)]
    by_cases e : nfK t n (tkE t n q) (gsV t n q) 9 = 0
    · obtain ⟨y1, y2, y3, y4, y5⟩ := nu_y (d := d) hl0 ht2 hb hk2 hn hin.2.2.2 h32 e
      rw [if_neg (fun w => w e)]
      refine ⟨up2 (gsI (up2 (gsI J) 163 x (gsV t n q))) 163 (x + 1) (gsV t n (tkE t n q)), w_X12_readsRange_0 hl0 g1 (by rw [ex]; exact y1) (e1 := by rw [ex1]) (v1 := by omega) (v3 := by omega), ?_, fun a h1 h2 => ?_, fun k hk' => ?_, fun k h1 h2 => ?_, fun k q' w => (by cases w), fun a b q' w => ?_⟩
      · exact rdF_trans g3 (rdF_trans (flR_rd flR_up) (rdF_trans y3 (flR_rd flR_up)))
      · funext j; rw [up2_a _ h2, y4 a h1, up2_a _ h2, g4 a h1]
      · rw [up2_a _ (by decide), y5 k (fun w => hk' (Or.inr (Or.inr w))), up2_a _ (by decide), g5 k (fun w => hk' (Or.inr (Or.inr w)))]
      · rw [up2_k _ h2, y4 163 (by decide), up2_k _ h1, g4 163 (by decide)]
      · cases w
        refine ⟨?_, ?_, up2_same _ _ _ _, ?_⟩
        · rw [up2_a _ (by decide), y5 3 (by unfold gsK; omega)]; exact h32
        · rw [up2_k _ (by omega), y4 163 (by decide), up2_same]
        · unfold TKm
          rw [show (up2 (gsI (up2 (gsI J) 163 x (gsV t n q))) 163 (x + 1) (gsV t n (tkE t n q))) 156 = gsI (up2 (gsI J) 163 x (gsV t n q)) 156 from funext (fun k => up2_a _ (by decide))]
          exact y2
    · have y1 := nu_n (d := d) hl0 hk2 h32 e
      rw [if_pos e]
      refine ⟨up2 (up2 (up2 (up2 (gsI J) 163 x (gsV t n q)) 156 3 (nfK t n (tkE t n q) (gsV t n q) 9)) 156 4 (tkS t n (tkE t n q) : Int)) 163 (x + 1) (gsV t n (tkE t n q)), w_X12_readsRange_0 hl0 g1 (by rw [ex]; exact y1) (e1 := by rw [ex1]) (v1 := by omega) (v3 := by omega), ?_, fun a h1 h2 => ?_, fun k hk' => ?_, fun k h1 h2 => ?_, fun k q' w => ?_, fun a b q' w => (by cases w)⟩
      · exact rdF_trans g3 (rdF_trans (flR_rd flR_up) (rdF_trans rdF_bad (flR_rd flR_up)))
      · funext j; rw [up2_a _ h2, up2_a _ h1, up2_a _ h1, up2_a _ h2, g4 a h1]
      · rw [up2_a _ (by decide), up2_k _ (by omega), up2_k _ (by omega), up2_a _ (by decide), g5 k (fun w => hk' (Or.inr (Or.inr w)))]
      · rw [up2_k _ h2, up2_a _ (by decide), up2_a _ (by decide), up2_k _ h1, g4 163 (by decide)]
      · cases w
        refine ⟨?_, ?_⟩
        · rw [up2_a _ (by decide), up2_k _ (by decide), up2_same]
        · rw [up2_a _ (by decide), up2_same]
  · rw [if_pos c]
    have y1 := nu_n (d := d) hl0 hk h3 c
    have e3 : (up2 (up2 J 156 3 (nfK t n q 3 9)) 156 4 (tkS t n q : Int)) 156 3 = nfK t n q 3 9 := rfl
    have y2 := nu_0 (d := d) (lo := gsV t n q) (hi := 9) (J := up2 (up2 (up2 J 156 3 (nfK t n q 3 9)) 156 4 (tkS t n q : Int)) 163 x (gsV t n q)) hl0 (by rw [up2_a _ (by decide), e3]; exact c)
    refine ⟨up2 (up2 (up2 (up2 J 156 3 (nfK t n q 3 9)) 156 4 (tkS t n q : Int)) 163 x (gsV t n q)) 163 (x + 1) 0, w_X12_readsRange_0 hl0 y1 (by rw [ex]; exact y2) (e1 := by rw [ex1]) (v1 := by omega) (v3 := by omega), ?_, fun a h1 h2 => ?_, fun k hk' => ?_, fun k h1 h2 => ?_, fun k q' w => ?_, fun a b q' w => (by cases w)⟩
    · exact rdF_trans rdF_bad (rdF_trans (flR_rd flR_up) (flR_rd flR_up))
    · funext j; rw [up2_a _ h2, up2_a _ h2, up2_a _ h1, up2_a _ h1]
    · rw [up2_a _ (by decide), up2_a _ (by decide), up2_k _ (by omega), up2_k _ (by omega)]
    · rw [up2_k _ h2, up2_k _ h1, up2_a _ (by decide), up2_a _ (by decide)]
    · cases w
      refine ⟨?_, ?_⟩
      · rw [up2_a _ (by decide), up2_a _ (by decide), up2_k _ (by decide), up2_same]
      · rw [up2_a _ (by decide), up2_a _ (by decide), up2_same]
/-- a rule that went wrong is left -/
theorem ru_f69 (hl0 : LyX12 S) (h3 : ¬J 156 3 = 0) (hR : R < 6) : ∃ J', L_X12_readsRule_69 d 156 (8 * (R : Int)) J S (J', S) ∧ flR J J' :=
  ⟨_, w_X12_readsRule_69 hl0 (fun w => absurd w h3) (e1 := fun _ => rfl) (v2 := by omega) (v4 := by omega) (v6 := by omega), flR_trans flR_up (flR_trans flR_up flR_up)⟩
theorem ru_f62 (hl0 : LyX12 S) (h3 : ¬J 156 3 = 0) (hR : R < 6) : ∃ J', L_X12_readsRule_62 d 156 (8 * (R : Int)) J S (J', S) ∧ flR J J' := by
  obtain ⟨J1, a1, a2⟩ := rr_0 (d := d) (x := 8 * R + 3) hl0 h3 (by omega)
  obtain ⟨J2, b1, b2⟩ := ru_f69 (d := d) (J := J1) (R := R) hl0 (by rw [a2.1]; exact h3) hR
  exact ⟨J2, w_X12_readsRule_62 hl0 a1 b1 (v1 := by omega), flR_trans a2 b2⟩
theorem ru_f45 (hl0 : LyX12 S) (h3 : ¬J 156 3 = 0) (hR : R < 6) : ∃ J', L_X12_readsRule_45 d 156 (8 * (R : Int)) J S (J', S) ∧ flR J J' := by
  obtain ⟨J2, b1, b2⟩ := ru_f62 (d := d) (J := J) (R := R) hl0 h3 hR
  exact ⟨J2, w_X12_readsRule_45 hl0 (ne_0 (d := d + 1) hl0 h3) b1, b2⟩
theorem ru_f38 (hl0 : LyX12 S) (h3 : ¬J 156 3 = 0) (hR : R < 6) : ∃ J', L_X12_readsRule_38 d 156 (8 * (R : Int)) J S (J', S) ∧ flR J J' := by
  obtain ⟨J1, a1, a2⟩ := rr_0 (d := d) (x := 8 * R + 1) hl0 h3 (by omega)
  obtain ⟨J2, b1, b2⟩ := ru_f45 (d := d) (J := J1) (R := R) hl0 (by rw [a2.1]; exact h3) hR
  exact ⟨J2, w_X12_readsRule_38 hl0 a1 b1 (v1 := by omega), flR_trans a2 b2⟩
end
end
