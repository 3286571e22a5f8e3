/-! ===== whether a token is a word ===== -/
noncomputable section
abbrev sOk (n a : Nat) : Prop := ([(5, 4), (4, 6), (4, 8), (4, 10), (4, 12), (2, 14), (4, 16), (4, 18), (5, 20), (4, 22), (4, 24), (5, 26), (3, 28)] : List (Nat × Nat)).contains (n, a) = true
def isStr (I : Nat → Nat → Int) (S : PS) (n a : Nat) : Prop := I a 1 = 0 ∧ S.1 a 0 = some (7, n, a + 1) ∧ n ≤ 100 ∧ ∀ k : Nat, k < n → 0 ≤ I (a + 1) k ∧ I (a + 1) k ≤ 127
def strs (I : Nat → Nat → Int) (S : PS) : Prop := isStr I S 5 4 ∧ isStr I S 4 6 ∧ isStr I S 4 8 ∧ isStr I S 4 10 ∧ isStr I S 4 12 ∧ isStr I S 2 14 ∧ isStr I S 4 16 ∧ isStr I S 4 18 ∧ isStr I S 5 20 ∧ isStr I S 4 22 ∧ isStr I S 4 24 ∧ isStr I S 5 26 ∧ isStr I S 3 28
theorem strs_get {I : Nat → Nat → Int} {S : PS} {n a : Nat} (h : strs I S) (hk : sOk n a) : isStr I S n a := by
  have hk := List.contains_iff_mem.mp hk
  obtain ⟨s0, s1, s2, s3, s4, s5, s6, s7, s8, s9, s10, s11, s12⟩ := h
  simp only [List.mem_cons, Prod.mk.injEq, List.not_mem_nil, or_false] at hk
  rcases hk with ⟨rfl, rfl⟩ | ⟨rfl, rfl⟩ | ⟨rfl, rfl⟩ | ⟨rfl, rfl⟩ | ⟨rfl, rfl⟩ | ⟨rfl, rfl⟩ | ⟨rfl, rfl⟩ | ⟨rfl, rfl⟩ | ⟨rfl, rfl⟩ | ⟨rfl, rfl⟩ | ⟨rfl, rfl⟩ | ⟨rfl, rfl⟩ | ⟨rfl, rfl⟩
  · exact s0
  · exact s1
  · exact s2
  · exact s3
  · exact s4
  · exact s5
  · exact s6
  · exact s7
  · exact s8
  · exact s9
  · exact s10
  · exact s11
  · exact s12
section
variable {d : Nat} {I : Nat → Nat → Int} {S : PS}
def iwP (I : Nat → Nat → Int) (a1 : Nat) (k : Nat) : Bool := decide (I 33 (I 32 4 + (k : Int)).toNat = I (a1 + 1) k)
/-- whether the token is this word -/
def iwC (I : Nat → Nat → Int) (n1 a1 : Nat) : Bool := (decide (I 32 3 = 1) && decide (I 32 2 - I 32 4 = (n1 : Int))) && allB (iwP I a1) n1
theorem c_X10_isWord {n1 a1 : Nat} (hl0 : LyX10 S) (hs : strs I S) (hk : sOk n1 a1) (hp : 0 ≤ I 32 4 ∧ I 32 4 ≤ 700 ∧ 0 ≤ I 32 2 ∧ I 32 2 ≤ 700) : Ca (d + 4) mX10_isWord [vR (some (20, 0, 32)), vR (some (6, n1, a1))] (I, S) (.inl (some (vI (if iwC I n1 a1 = true then 1 else 0)))) (I, S) := by
  obtain ⟨h1, h2, h3, h4⟩ := strs_get hs hk
  refine w_X10_isWord_0 hl0 (fun c1 c2 => ?_) (fun c => by unfold iwC; rw [decide_eq_false c]; rfl) (r2 := fun c1 c => by unfold iwC; rw [decide_eq_true c1, decide_eq_false c]; rfl)
  have hM : iwC I n1 a1 = allB (iwP I a1) n1 := by unfold iwC; rw [decide_eq_true c1, decide_eq_true c2]; rfl
  rw [hM]
  refine up_loopN (P := fun k => allB (iwP I a1) k = true → L_X10_isWord_28 d 32 n1 a1 k I S (if allB (iwP I a1) n1 = true then 1 else 0) (I, S)) (n := n1) ?_ ?_ rfl
  · intro hf
    exact w_X10_isWord_28 hl0 (fun h => absurd h (by omega)) (fun _ => (if_pos hf).symm) (r2 := fun h => absurd h (by omega))
  · intro k hk2 ih hf
    have h5 := h4 k hk2
    exact w_X10_isWord_28 hl0 (fun _ c => ih (allB_succ hf (decide_eq_true c))) (fun h => absurd h (by omega)) (r2 := fun _ c => by rw [allB_no hk2 (decide_eq_false c)]; rfl)
end
end
