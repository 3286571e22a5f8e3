/-! ===== a piece is built: the loops ===== -/
noncomputable section
def edT (r s : Int) : Nat → List (Int × Int)
  | 0 => []
  | k + 1 => (edT r s k ++ [(r, r + 1 + (k : Int))]) ++ (if (k : Int) + 1 < s then [(r + 1 + (k : Int), r + 2 + (k : Int))] else [])
section
variable {d : Nat} {S : PS}
def edBu (K : Nat → Nat → Int) (a0 : Nat) : List (Int × Int) := ((edR (K a0 3) (K a0 3).toNat ++ edT (K a0 3) (K a0 1) (K a0 1).toNat) ++ (if K a0 1 = K a0 0 then [(K a0 3 + K a0 1, K a0 3 + 1)] else [])) ++ edCL K a0
theorem prC_up {I : Nat → Nat → Int} {a0 : Nat} {F : Nat → Int} : prC (up1 I (a0 + 2) F) a0 = prC I a0 := by
  have e0 : up1 I (a0 + 2) F a0 = I a0 := up1_o I (by omega)
  have es : ∀ k, prT (up1 I (a0 + 2) F) a0 k = prT I a0 k := by
    intro k
    induction k with
    | zero => rfl
    | succ k ih =>
      show prT (up1 I (a0 + 2) F) a0 k + (f_X3_edgesToRing (up1 I (a0 + 2) F) a0 k - 1) = prT I a0 k + (f_X3_edgesToRing I a0 k - 1)
      rw [ih, etr_up]
  unfold prC prB
  rw [e0, es]
theorem edCL_up {I : Nat → Nat → Int} {a0 : Nat} {F : Nat → Int} : edCL (up1 I (a0 + 2) F) a0 = edCL I a0 := by
  have e0 : up1 I (a0 + 2) F a0 = I a0 := up1_o I (by omega)
  have ee : (fun i : Nat => f_X3_edgesToRing (up1 I (a0 + 2) F) a0 (i : Int)) = fun i : Nat => f_X3_edgesToRing I a0 (i : Int) := by funext i; exact etr_up _
  have ec : edC (up1 I (a0 + 2) F) a0 = edC I a0 := by
    unfold edC
    rw [e0, ee]
  unfold edCL
  rw [e0, ec]
theorem build_loop {K : Nat → Nat → Int} {a0 : Nat} (hl0 : LyX3 S a0) (h : cPc K a0) (hr : K a0 3 = prC K a0) (hr7 : 1 ≤ K a0 3 ∧ K a0 3 ≤ 7) : L_X3_build_52 d a0 0 K S 1 (up1 K (a0 + 2) (lkL (K (a0 + 2)) (edBu K a0)), S) := by
  obtain ⟨h1, h2, h3⟩ := id h
  have fld : ∀ J l, J = up1 K (a0 + 2) l → J a0 = K a0 := fun J l hJ => by rw [hJ, up1_o K (by omega)]
  have upd : ∀ (l : List (Int × Int)) (a b : Int) (J : Nat → Nat → Int), J = up1 K (a0 + 2) (lkL (K (a0 + 2)) l) → up1 J (a0 + 2) (lk (J (a0 + 2)) a b) = up1 K (a0 + 2) (lkL (K (a0 + 2)) (l ++ [(a, b)])) := fun l a b J hJ => by
    rw [hJ, up1_same, lkL_snoc, up1_up1]
  have last : ∀ (l : List (Int × Int)) (J : Nat → Nat → Int), J = up1 K (a0 + 2) (lkL (K (a0 + 2)) l) → up1 J (a0 + 2) (lkL (J (a0 + 2)) (edCL J a0)) = up1 K (a0 + 2) (lkL (K (a0 + 2)) (l ++ edCL K a0)) := fun l J hJ => by
    rw [hJ, edCL_up, up1_same, lkL_app, up1_up1]
  have cp : ∀ (l : Nat → Int) (J : Nat → Nat → Int), J = up1 K (a0 + 2) l → cPc J a0 := fun l J hJ => by
    unfold cPc
    rw [hJ, up1_o K (show a0 ≠ a0 + 2 by omega), up1_o K (show a0 + 1 ≠ a0 + 2 by omega)]
    exact h
  have pc : ∀ (l : Nat → Int) (J : Nat → Nat → Int), J = up1 K (a0 + 2) l → J a0 3 = prC J a0 := fun l J hJ => by
    rw [hJ, prC_up, up1_o K (show a0 ≠ a0 + 2 by omega)]
    exact hr
  have spokes : ∀ (j k : Nat) (J : Nat → Nat → Int), (k : Int) + j = K a0 1 → J = up1 K (a0 + 2) (lkL (K (a0 + 2)) (edR (K a0 3) (K a0 3).toNat ++ edT (K a0 3) (K a0 1) k)) → L_X3_build_90 d a0 k J S 1 (up1 K (a0 + 2) (lkL (K (a0 + 2)) (edBu K a0)), S) := by
    intro j
    induction j with
    | zero =>
      intro k J hk hJ
      have e0 := fld J _ hJ
      have j0 := congrFun e0 0
      have j1 := congrFun e0 1
      have j3 := congrFun e0 3
      have hw := upd _ (J a0 3 + J a0 1) (J a0 3 + 1) J hJ
      refine w_X3_build_90 hl0 (fun hh => absurd hh (by omega)) (fun hh => absurd hh (by omega)) (fun _ _ => rfl) (fun _ c => ?_) (fun _ _ => rfl) (fun _ c => ?_) (v1 := fun _ _ => cp _ J hJ) (v2 := fun _ _ => pc _ J hJ) (v8 := fun _ _ => cp _ _ hw) (v9 := fun _ _ => pc _ _ hw) (v10 := fun _ _ => by have := congrFun (fld _ _ hw) 3; omega)
      · rw [last _ J hJ]
        unfold edBu
        rw [if_neg (show ¬(K a0 1 = K a0 0) by omega), List.append_nil, show k = (K a0 1).toNat by omega]
      · rw [last _ _ hw]
        unfold edBu
        rw [if_pos (show K a0 1 = K a0 0 by omega), show k = (K a0 1).toNat by omega, j1, j3]
    | succ j ih =>
      intro k J hk hJ
      have e0 := fld J _ hJ
      have j1 := congrFun e0 1
      have j3 := congrFun e0 3
      have e1 := upd _ (J a0 3) (J a0 3 + 1 + (k : Int)) J hJ
      have e2 := fld _ _ e1
      have i1 := congrFun e2 1
      have i3 := congrFun e2 3
      refine w_X3_build_90 hl0 (fun _ c => ?_) (fun _ c => ?_) (fun hh => absurd hh (by omega)) (fun hh => absurd hh (by omega)) (fun hh => absurd hh (by omega)) (fun hh => absurd hh (by omega)) (v1 := fun hh => absurd hh (by omega)) (v2 := fun hh => absurd hh (by omega)) (v8 := fun hh => absurd hh (by omega)) (v9 := fun hh => absurd hh (by omega)) (v10 := fun hh => absurd hh (by omega))
      · refine ih (k + 1) _ (by omega) ?_
        rw [e1, j3]
        congr 2
        show _ = _ ++ ((edT _ _ k ++ [(K a0 3, K a0 3 + 1 + (k : Int))]) ++ (if (k : Int) + 1 < K a0 1 then _ else []))
        rw [if_neg (by omega), List.append_nil, List.append_assoc]
      · refine ih (k + 1) _ (by omega) ?_
        rw [upd _ _ _ _ e1, i3, j3]
        congr 2
        show _ = _ ++ ((edT _ _ k ++ [(K a0 3, K a0 3 + 1 + (k : Int))]) ++ (if (k : Int) + 1 < K a0 1 then [(K a0 3 + 1 + (k : Int), K a0 3 + 2 + (k : Int))] else _))
        rw [if_pos (by omega), List.append_assoc, List.append_assoc, List.append_assoc]
  refine up_loopN (P := fun k => ∀ J, J = up1 K (a0 + 2) (lkL (K (a0 + 2)) (edR (K a0 3) k)) → L_X3_build_52 d a0 k J S 1 (up1 K (a0 + 2) (lkL (K (a0 + 2)) (edBu K a0)), S)) (n := (K a0 3).toNat) ?_ ?_ K (up1_self K (a0 + 2)).symm
  · intro J hJ
    have j3 := congrFun (fld J _ hJ) 3
    refine w_X3_build_52 hl0 (fun _ => ?_) (fun hh => absurd hh (by omega)) (v3 := fun hh => absurd hh (by omega))
    refine spokes (K a0 1).toNat 0 J (by omega) ?_
    rw [hJ]
    congr 2
    exact (List.append_nil _).symm
  · intro k hk ih J hJ
    have j3 := congrFun (fld J _ hJ) 3
    have e : (if J a0 3 ≤ (k : Int) + 1 then (0 : Int) else (k : Int) + 1) = ((k : Int) + 1) % K a0 3 := by rw [j3]; exact ix_on (by omega)
    refine w_X3_build_52 hl0 (fun hh => absurd hh (by omega)) (fun _ => ih _ ?_)
    rw [e]
    exact upd _ _ _ J hJ
end
end
