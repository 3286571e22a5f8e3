noncomputable section
section
variable {d : Nat} {I : Nat → Nat → Int} {S : PS}
def ntX (f : Nat → Int) (dg : Int) (k : Nat) : Int := f (if (k : Int) ≤ 0 then (dg - 1 : Int) else (k : Int) - 1).toNat
def ntY (f : Nat → Int) (dg : Int) (k : Nat) : Int := f (if dg ≤ (k : Int) + 1 then (0 : Int) else (k : Int) + 1).toNat
/-- how often a rule sends to the middle, less how often from there -/
def ntC (I : Nat → Nat → Int) (a0 a3 : Nat) (r dg : Int) : Nat → Int
  | 0 => 0
  | k + 1 => if ¬(q_X7_applies I a0 r dg (I a3 (k : Int).toNat) (ntX (I a3) dg k) (ntY (I a3) dg k) = true) then ((if ¬(q_X7_applies I a0 r (I a3 (k : Int).toNat) dg (ntX (I a3) dg k) (ntY (I a3) dg k) = true) then (ntC I a0 a3 r dg k : Int) else ntC I a0 a3 r dg k + 1) : Int) else (if ¬(q_X7_applies I a0 r (I a3 (k : Int).toNat) dg (ntX (I a3) dg k) (ntY (I a3) dg k) = true) then (ntC I a0 a3 r dg k : Int) else ntC I a0 a3 r dg k + 1) - 1
theorem ntC_le (I : Nat → Nat → Int) (a0 a3 : Nat) (r dg : Int) : ∀ n : Nat, -(n : Int) ≤ ntC I a0 a3 r dg n ∧ ntC I a0 a3 r dg n ≤ n
  | 0 => ⟨Int.le_refl 0, Int.le_refl 0⟩
  | n + 1 => by
    have := ntC_le I a0 a3 r dg n
    unfold ntC
    split <;> split <;> omega
theorem c_X7_net {a0 n3 a3 : Nat} {x1 x2 : Int} (hl0 : LyX7 S a0) (hr : 0 ≤ x1 ∧ x1 < 6) (hd : 0 ≤ x2 ∧ x2 ≤ n3) (hn : n3 ≤ 9) : Ca (d + 2) mX7_net [vR (some (17, 0, a0)), vI x1, vI x2, vR (some (0, n3, a3))] (I, S) (.inl (some (vI (ntC I a0 a3 x1 x2 x2.toNat)))) (I, S) := by
  refine w_X7_net_0 hl0 ?_
  refine up_loopN (P := fun k => L_X7_net_6 d a0 x1 x2 n3 a3 (ntC I a0 a3 x1 x2 k) k I S (ntC I a0 a3 x1 x2 x2.toNat) (I, S)) (n := x2.toNat) ?_ ?_
  · exact w_X7_net_6 hl0 (fun h => absurd h (by omega)) (fun _ => rfl) (v9 := fun h => absurd h (by omega))
  · intro k hk ih
    have h1 := ntC_le I a0 a3 x1 x2 k
    exact w_X7_net_6 hl0 (fun _ => ih) (fun h => absurd h (by omega)) (v9 := fun _ _ => by split <;> omega)
end
end
