noncomputable section
theorem w_X11_swap_0 {d : Nat} {I : Nat → Nat → Int} {S : PS} {x1 x2 z1 : Int} {T U : Nat} {J1 J2 J3 : Nat → Nat → Int} {r : PO × PM} (hl0 : LyX11 S T U)
    (g1 : (((0 ≤ x1) ∧ (x1 < I T 6))) → Ca (d + 5) mX2_chainOf [vR (some (13, 0, 127)), vR (some (11, 0, T)), vI x1, vI x2] (I, S) (.inl (some (vI z1))) (J1, S))
    (g2 : (((0 ≤ x1) ∧ (x1 < I T 6))) → (z1 ≠ 0) → Ca (d + 5) mX2_exchange [vR (some (13, 0, 127)), vI z1, vI (colO (J1 (127 + 1)) x1), vI x2] (J1, S) (.inl none) (J2, S))
    (g3 : (((0 ≤ x1) ∧ (x1 < I T 6))) → (z1 ≠ 0) → Ca (d + 5) mX9_keepAct [vR (some (19, 0, 126)), vI 2, vI z1, vI (((colO (J1 (127 + 1)) x1) * 4) + x2)] (J2, S) (.inl none) (J3, S))
    (r1 : (((0 ≤ x1) ∧ (x1 < I T 6))) → (z1 ≠ 0) → (.inl (some (vI (bcn z1 32))), (J3, S)) = r := by intros; first | rfl | (exfalso; omega) | contradiction | (exfalso; simp_all; done))
    (r2 : (((0 ≤ x1) ∧ (x1 < I T 6))) → (z1 = 0) → (.inl (some (vI (-1))), ((up2 J1 155 1 (J1 155 1 + 1)), S)) = r := by intros; first | rfl | (exfalso; omega) | contradiction | (exfalso; simp_all; done))
    (r3 : (¬((0 ≤ x1) ∧ (x1 < I T 6))) → (.inr 1, (I, (exS S))) = r := by intros; first | rfl | (exfalso; omega) | contradiction | (exfalso; simp_all; done))
    (v1 : (((0 ≤ x1) ∧ (x1 < I T 6))) → (z1 ≠ 0) → -2147483648 ≤ (colO (J1 (127 + 1)) x1) * 4 ∧ (colO (J1 (127 + 1)) x1) * 4 ≤ 2147483647 := by intros; first | assumption | omega | (split <;> omega))
    (v2 : (((0 ≤ x1) ∧ (x1 < I T 6))) → (z1 ≠ 0) → -2147483648 ≤ ((colO (J1 (127 + 1)) x1) * 4) + x2 ∧ ((colO (J1 (127 + 1)) x1) * 4) + x2 ≤ 2147483647 := by intros; first | assumption | omega | (split <;> omega))
    (v3 : (((0 ≤ x1) ∧ (x1 < I T 6))) → (z1 = 0) → -2147483648 ≤ J1 155 1 + 1 ∧ J1 155 1 + 1 ≤ 2147483647 := by intros; first | assumption | omega | (split <;> omega)) : Ca (d + 6) mX11_swap [vR (some (21, 0, 31)), vI x1, vI x2] (I, S) r.1 r.2 :=
  Ca.of rfl rfl (
  (Classical.em (((0 ≤ x1) ∧ (x1 < I T 6)))).elim (fun c1 => 
    b_X11_swap_0  (c_X11_checkSpot hl0 c1) (
    b_X11_swap_5 (ly_X11_6 hl0) (ly_X9_0 (ly_X11_s hl0)) (ly_X11_2 hl0) (g1 c1) (
    b_X11_swap_21  (fun (c3 : z1 ≠ 0) => 
      b_X11_swap_31 (ly_X11_6 hl0) (ly_X9_0 (ly_X11_s hl0)) (c_X2_colourAt (ly_X9_p (ly_X11_s hl0))) (
      b_X11_swap_42 (ly_X11_6 hl0) (ly_X9_0 (ly_X11_s hl0)) (g2 c1 c3) (
      b_X11_swap_58 (ly_X11_6 hl0) (v1 c1 c3) (v2 c1 c3) (g3 c1 c3) (
      b_X11_swap_73  k_J6_bitCount_0f7a4 (ev_eqr (r1 c1 c3) (b_X11_swap_77 )))))) (fun (c4 : z1 = 0) => 
      b_X11_swap_26  (c_X11_refusedAct hl0 (v3 c1 c4)) (ev_eqr (r2 c1 c4) (b_X11_swap_30 )))))) (fun c2 => ev_eqr (r3 c2) (bt_X11_swap_0  (c_X11_checkSpot_t hl0 c2) rfl)))
end
