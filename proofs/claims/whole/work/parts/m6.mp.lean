/-! ===== whether there is a map: both sides alike ===== -/
noncomputable section
section
variable {d : Nat} {I J K X Y : Nat → Nat → Int} {S : PS} {U P R N p n q : Nat} {D F G : Nat → Int}
theorem nr_P {u k g : Nat} (hg : D (10 * u) = (g : Int)) (h : k < g) : nrF D (u : Int) (k : Int) = D (10 * u + 1 + k) := by
  unfold nrF
  rw [show (10 * (u : Int)).toNat = 10 * u by omega, hg, show ((k : Int) + (g : Int)) % (g : Int) = (k : Int) by rw [Int.add_emod_right]; exact Int.emod_eq_of_lt (by omega) (by omega)]
  congr 1
theorem nr_Q {u k g : Nat} (hg : D (10 * u) = (g : Int)) (h : k < g) : nrF D (u : Int) ((k : Int) + 1) = D (10 * u + 1 + (if g ≤ k + 1 then 0 else k + 1)) := by
  by_cases c : g ≤ k + 1
  · rw [if_pos c]
    unfold nrF
    rw [show (10 * (u : Int)).toNat = 10 * u by omega, hg, show ((k : Int) + 1 + (g : Int)) % (g : Int) = 0 by rw [Int.add_emod_right, show (k : Int) + 1 = (g : Int) by omega, Int.emod_self]]
    congr 1
  · rw [if_neg c]
    exact nr_P (k := k + 1) hg (by omega)
/-- one neighbour of a spot -/
theorem mp_one {u i : Nat} (hs : ∀ s, s < N → stR X U D s) (h6 : X U 6 = (N : Int)) (hu : u < N) {g : Nat} (hg : D (10 * u) = (g : Int)) (hi : i < g) : imP X U u i = (decide (D (10 * u + 1 + i) < (N : Int)) && decide (mmF D (u : Int) (i : Int) ≠ -1 ∧ nrF D (nrF D (u : Int) (i : Int)) (mmF D (u : Int) (i : Int) + 1) = (u : Int))) := by
  obtain ⟨g', a1, a2, a3, a4, _⟩ := hs u hu
  obtain rfl : g' = g := by omega
  have e1 : X (U + 6) (((u : Int) * 9) + (i : Int)).toNat = D (10 * u + 1 + i) := by rw [show (((u : Int) * 9) + (i : Int)).toNat = 9 * u + i by omega]; exact (a4 i hi).1
  have e2 : X (U + 6) (((u : Int) * 9) + (if X (U + 4) u ≤ (i : Int) + 1 then (0 : Int) else (i : Int) + 1)).toNat = D (10 * u + 1 + (if g' ≤ i + 1 then 0 else i + 1)) := by
    rw [a2]
    by_cases c : g' ≤ i + 1
    · rw [if_pos c, if_pos (by omega), show (((u : Int) * 9) + 0).toNat = 9 * u + 0 by omega]; exact (a4 0 (by omega)).1
    · rw [if_neg c, if_neg (by omega), show (((u : Int) * 9) + ((i : Int) + 1)).toNat = 9 * u + (i + 1) by omega]; exact (a4 (i + 1) (by omega)).1
  unfold imP
  rw [e1, e2, h6]
  have hv := (a4 i hi).2
  by_cases c : D (10 * u + 1 + i) < (N : Int)
  · obtain ⟨v, ev⟩ : ∃ v : Nat, D (10 * u + 1 + i) = (v : Int) := ⟨(D (10 * u + 1 + i)).toNat, by omega⟩
    have hvN : v < N := by omega
    obtain ⟨gv, b1, b2, b3, b4, _⟩ := hs v hvN
    rw [decide_eq_true c, Bool.true_and]
    unfold mmF
    rw [nr_P hg hi, nr_Q hg hi, ev, Int.toNat_natCast, b2]
    generalize D (10 * u + 1 + (if g' ≤ i + 1 then 0 else i + 1)) = x
    have ef : fstB (fun k => decide (X (U + 6) ((v : Int) * 9 + (k : Int)).toNat = x)) (gv : Int).toNat = fstB (npP D (v : Int) x) (D (10 * (v : Int)).toNat).toNat := by
      rw [show (10 * (v : Int)).toNat = 10 * v by omega, b3, Int.toNat_natCast]
      refine fstB_congr (fun k hk => ?_)
      unfold npP
      rw [show ((v : Int) * 9 + (k : Int)).toNat = 9 * v + k by omega, (b4 k hk).1, show (((10 * (v : Int)) + 1) + (k : Int)).toNat = 10 * v + 1 + k by omega]
    unfold bhd
    rw [ef]
    have hj := fstB_in (npP D (v : Int) x) (D (10 * (v : Int)).toNat).toNat
    rw [show (10 * (v : Int)).toNat = 10 * v by omega, b3, Int.toNat_natCast] at hj ⊢
    generalize fstB (npP D (v : Int) x) gv = j at hj ⊢
    refine decide_eq_decide.mpr ?_
    by_cases cj : j = -1
    · rw [if_pos cj]
      constructor
      · intro w; have := w.2; omega
      · intro w; exact absurd cj w.1
    · obtain ⟨jn, ej⟩ : ∃ jn : Nat, j = (jn : Int) := ⟨j.toNat, by omega⟩
      rw [if_neg cj, ej, nr_Q b3 (by omega)]
      have e3 : X (U + 6) ((v : Int) * 9 + (if (gv : Int) ≤ (jn : Int) + 1 then (0 : Int) else (jn : Int) + 1)).toNat = D (10 * v + 1 + (if gv ≤ jn + 1 then 0 else jn + 1)) := by
        by_cases c : gv ≤ jn + 1
        · rw [if_pos c, if_pos (by omega), show ((v : Int) * 9 + 0).toNat = 9 * v + 0 by omega]; exact (b4 0 (by omega)).1
        · rw [if_neg c, if_neg (by omega), show ((v : Int) * 9 + ((jn : Int) + 1)).toNat = 9 * v + (jn + 1) by omega]; exact (b4 (jn + 1) (by omega)).1
      rw [e3]
      exact ⟨fun w => ⟨by omega, w.2⟩, fun w => ⟨by omega, w.2⟩⟩
  · rw [decide_eq_false c, Bool.false_and]
    exact decide_eq_false (fun w => c w.1)
theorem mp_all (h : rrR U P R N X Y) : imC X U = mmM Y := by
  obtain ⟨⟨p1, p2, p3⟩, ⟨x1, x2, x3⟩, ⟨y1, y2, y3⟩, _, _, hs⟩ := h
  unfold imC mmM
  rw [x3, y3, Int.toNat_natCast]
  rw [Bool.eq_iff_iff, Bool.and_eq_true, allB_iff, allB_iff, allB_iff]
  have hu : ∀ u, u < N → ∃ g : Nat, X (U + 4) u = (g : Int) ∧ Y 164 (10 * u) = (g : Int) := fun u hu => by
    obtain ⟨g, _, a2, a3, _⟩ := hs u hu
    exact ⟨g, a2, a3⟩
  constructor
  · intro w
    refine ⟨fun u hu' => ?_, fun u hu' => ?_⟩
    · obtain ⟨g, a2, a3⟩ := hu u hu'
      have wu := allB_iff.mp (w u hu')
      unfold mmA
      rw [show (10 * (u : Int)).toNat = 10 * u by omega, a3, Int.toNat_natCast, allB_iff]
      intro k hk
      have := wu k (by rw [a2, Int.toNat_natCast]; exact hk)
      rw [mp_one hs x3 hu' a3 hk, Bool.and_eq_true, decide_eq_true_iff] at this
      rw [show (((10 * (u : Int)) + 1) + (k : Int)).toNat = 10 * u + 1 + k by omega, y3]
      exact decide_eq_true this.1
    · obtain ⟨g, a2, a3⟩ := hu u hu'
      have wu := allB_iff.mp (w u hu')
      rw [show (10 * (u : Int)).toNat = 10 * u by omega, a3, Int.toNat_natCast, allB_iff]
      intro k hk
      have := wu k (by rw [a2, Int.toNat_natCast]; exact hk)
      rw [mp_one hs x3 hu' a3 hk, Bool.and_eq_true] at this
      exact this.2
  · intro w u hu'
    obtain ⟨g, a2, a3⟩ := hu u hu'
    rw [a2, Int.toNat_natCast, allB_iff]
    intro k hk
    rw [mp_one hs x3 hu' a3 hk, Bool.and_eq_true]
    have w1 := w.1 u hu'
    unfold mmA at w1
    rw [show (10 * (u : Int)).toNat = 10 * u by omega, a3, Int.toNat_natCast, allB_iff] at w1
    have w2 := w.2 u hu'
    rw [show (10 * (u : Int)).toNat = 10 * u by omega, a3, Int.toNat_natCast, allB_iff] at w2
    refine ⟨?_, w2 k hk⟩
    have := w1 k hk
    rw [show (((10 * (u : Int)) + 1) + (k : Int)).toNat = 10 * u + 1 + k by omega, y3] at this
    exact this
end
end
