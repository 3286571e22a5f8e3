/-! ===== ends of joins that are read: the class's ===== -/
noncomputable section
/-- what is wrong with an end of a join, among m vertices -/
def vfK (t : Nat → Int) (n q : Nat) (m : Int) : Int := if nfK t n q 0 9999 ≠ 0 then nfK t n q 0 9999 else (if m ≤ gsV t n q then 3 else 0)
section
variable {d : Nat} {I J K X : Nat → Nat → Int} {S : PS} {n q a1 : Nat} {t : Nat → Int} {m : Int}
theorem vf_0 (h : vfK t n q m = 0) : nfK t n q 0 9999 = 0 ∧ 0 ≤ gsV t n q ∧ gsV t n q < m := by
  unfold vfK at h
  by_cases c : nfK t n q 0 9999 = 0
  · rw [if_neg (fun w => w c)] at h
    by_cases e : m ≤ gsV t n q
    · rw [if_pos e] at h; exact absurd h (by decide)
    · exact ⟨c, (gsV_in (t := t) (n := n) (p := q)).1, by omega⟩
  · rw [if_pos c] at h; exact absurd h c
theorem rv_C (hl0 : LyX10 S) (hl1 : LyX3 S a1) (ht : txR (J 33) t) (hn : n ≤ 700) (hq : q ≤ n) (h1 : J 32 1 = (n : Int)) (h2 : J 32 2 = (q : Int)) (ha : a1 ≠ 32) (hm : J a1 4 = m) : Ca (d + 4) mX5_readVertex [vR (some (20, 0, 32)), vR (some (14, 0, a1))] (J, S) (.inl (some (vI (vfK t n q m)))) (adI J, S) ∧ TKc (adI J) t n q ∧ (∀ a, a ≠ 32 → adI J a = J a) ∧ (vfK t n q m = 0 → adI J 32 5 = gsV t n q) := by
  obtain ⟨b1, b2, b3⟩ := rn_C (d := d + 1) (lo := 0) (hi := 9999) hl0 ht h1 h2 hn hq (by decide) (by decide)
  have e4 : adI J a1 4 = m := by rw [b3 a1 ha]; exact hm
  refine ⟨?_, b2, b3, fun w => b2.2.2.2.2.trans (nf_0 (vf_0 w).1).2.2.2.2⟩
  by_cases c : nfK t n q 0 9999 = 0
  · have e5 : adI J 32 5 = gsV t n q := b2.2.2.2.2.trans (nf_0 c).2.2.2.2
    by_cases e : m ≤ gsV t n q
    · have hv : vfK t n q m = 3 := by unfold vfK; rw [if_neg (fun w => w c), if_pos e]
      rw [hv]
      exact w_X5_readVertex_0 hl0 hl1 b1 (r1 := fun _ _ => rfl) (e1 := fun _ _ => rfl) (r2 := fun _ w => absurd w (by rw [e4, e5]; omega)) (e2 := fun _ _ => rfl) (r3 := fun w => absurd c w) (e3 := fun w => absurd c w)
    · have hv : vfK t n q m = 0 := by unfold vfK; rw [if_neg (fun w => w c), if_neg e]
      rw [hv]
      exact w_X5_readVertex_0 hl0 hl1 b1 (r1 := fun _ w => absurd w (by rw [e4, e5]; omega)) (e1 := fun _ _ => rfl) (r2 := fun _ _ => rfl) (e2 := fun _ _ => rfl) (r3 := fun w => absurd c w) (e3 := fun w => absurd c w)
  · have hv : vfK t n q m = nfK t n q 0 9999 := by unfold vfK; rw [if_pos c]
    rw [hv]
    exact w_X5_readVertex_0 hl0 hl1 b1 (r1 := fun w => absurd w c) (e1 := fun w => absurd w c) (r2 := fun w => absurd w c) (e2 := fun w => absurd w c) (r3 := fun _ => rfl) (e3 := fun _ => rfl)
end
end
